/** The edges of promises 26 to 35, a test a sentence: what is appended, waits, ticks, snaps, crashes, is flipped, undone. */
public final class EdgesActsTest {
  private static final int[] OUTSIDE_0_TO_7 = {Integer.MIN_VALUE, -1, 8, 9, Integer.MAX_VALUE};
  private static final int[] OUTSIDE_1_TO_100 = {Integer.MIN_VALUE, -1, 0, 101, 102, Integer.MAX_VALUE};

  public static void main(String[] args) {
    appendItsNumber();
    appendWhen16Wait();
    appendWithoutRoomInASegment();
    appendThatCantBe();
    appendHaltedOrWithout();
    waitsOfNoneSuch();
    waitsAlready();
    ticksThatCantBe();
    ticksNotBeyond999();
    ticksHowManyAreReleased();
    chanceThatCantBe();
    chanceNotBeyond999();
    chanceIsOneAct();
    chanceByTheTest();
    snapWhenItHasThat();
    snapHaltedOrWithout();
    crashThatCantBe();
    crashAtItsEnds();
    giveUpNotHalted();
    giveUpHowManyWereNot0();
    flipOfNoneSuch();
    flipAtItsEnds();
    undoWhenNoneCanBe();
    undoTheLast20();
    undoEachAct();
    undoOfReleases();
    undoOfAges();
    undoKeepsTheSeed();
    noActs();
    seedBelow0();
    seedIs1AtFirst();
    Trial.close();
  }

  private static Twins.Call append(int key, int value, int size) {
    return of -> of.append(key, value, size);
  }

  /** 26: A RECORD is appended: its number. */
  private static void appendItsNumber() {
    Trial t = Trial.told("26: its number", Twins.SMALL + "closes all;takes 9;");
    for (int number = 0; number < 5; number++) {
      t.due("append", t.of.append(0, 0, 0), number);
      t.of.ticks(1);
    }
    t = new Trial("26: its number behind a crash");
    Twins.busy(t.of);
    t.due("append", t.of.append(0, 0, 0), 5);
    t.of.crash(19);
    t.due("append", t.of.append(0, 0, 0), 3);
    t.due("status(2)", t.of.status(2), 0);
  }

  /** 26, II: NONE, refused (2), when 16 wait. */
  private static void appendWhen16Wait() {
    String text = Twins.SMALL + "closes tick=0;takes 9;" + "put 1 1 size 0;".repeat(4);
    Trial t = Trial.told("26: 16 wait", text);
    t.of.ticks(1);
    for (int i = 0; i < 16; i++) {
      t.due("has(5), four being on their way", t.of.has(5), i);
      t.due("append", t.of.append(1, 2, 3), 4 + i);
    }
    t.due("has(5)", t.of.has(5), 16);
    Twins.Setup full = of -> {
      Twins.busy(of);
      for (int i = 0; i < 15; i++) {
        of.append(1, i, 0);
      }
    };
    Twins.refuses("26: a 17th", full, append(1, 1, 0), -1, Twins.RECORD);
    Twins.refuses("26: a 17th", Twins.told(Twins.SMALL + "put 1 1 size 0;".repeat(16)), append(1, 1, 0), -1, Twins.RECORD);
  }

  /** 26: when it has no room in a SEGMENT behind its HEAD. */
  private static void appendWithoutRoomInASegment() {
    // what a segment has: blocks of so many bytes less 4 each, less the head's 5, less key and value
    int[][] shapes = {{2, 16}, {2, 17}, {2, 27}, {3, 16}, {3, 20}, {4, 16}};
    for (int[] shape : shapes) {
      int most = shape[0] * (shape[1] - 4) - 5 - 3;
      Twins.Setup told = Twins.told("journal 2 blocks " + shape[0] + " bytes " + shape[1] + ";");
      Trial t = new Trial("26: size " + most + " of blocks " + shape[0] + " bytes " + shape[1]);
      told.on(t.of);
      t.due("append", t.of.append(1, 1, most), 0);
      if (most < 40) {
        Twins.refuses("26: size " + (most + 1), told, append(1, 1, most + 1), -1, Twins.RECORD);
        Twins.refuses("26: size 40", told, append(1, 1, 40), -1, Twins.RECORD);
      }
    }
    Twins.refuses("26: size 17 of the smallest", Twins::busy, append(1, 1, 17), -1, Twins.RECORD);
    Trial t = Trial.told("26: no room from THE PLACE on is no matter", Twins.SMALL + "closes all;" + "put 1 1 size 16;".repeat(2));
    t.of.ticks(5);
    t.due("room(0)", t.of.room(0), 0);
    t.due("append", t.of.append(1, 1, 16), 2);
  }

  /** 26, I: it can't be (KEY 0 .. 15, VALUE 0 .. 999, SIZE 0 .. 40). */
  private static void appendThatCantBe() {
    for (int key : new int[] {Integer.MIN_VALUE, -1, 16, 17, Integer.MAX_VALUE}) {
      Twins.refuses("26: key " + key, Twins::busy, append(key, 0, 0), -1, Twins.RECORD);
    }
    for (int value : new int[] {Integer.MIN_VALUE, -1, 1000, 1001, Integer.MAX_VALUE}) {
      Twins.refuses("26: value " + value, Twins::busy, append(0, value, 0), -1, Twins.RECORD);
    }
    for (int size : new int[] {Integer.MIN_VALUE, -3, -1, 41, 42, Integer.MAX_VALUE}) {
      Twins.refuses("26: size " + size, Twins::busy, append(0, 0, size), -1, Twins.RECORD);
      Twins.refuses("26: size " + size, Twins.told(Twins.GREAT), append(0, 0, size), -1, Twins.RECORD);
    }
    int[][] ends = {{0, 0, 0}, {15, 0, 0}, {0, 999, 0}, {0, 0, 40}, {15, 999, 40}};
    for (int[] end : ends) {
      Trial t = Trial.told("26: what can be", Twins.GREAT);
      t.due("append", t.of.append(end[0], end[1], end[2]), 0);
      for (int what = 0; what < 3; what++) {
        t.due("waiting(0, " + (what + 1) + ")", t.of.waiting(0, what + 1), end[what]);
      }
    }
  }

  /** 26: it is HALTED, or without a journal. */
  private static void appendHaltedOrWithout() {
    Twins.refuses("26: HALTED", Twins::halted, append(0, 0, 0), -1, Twins.RECORD);
    Twins.refuses("26: HALTED", Twins::groundless, append(0, 0, 0), -1, Twins.RECORD);
    Twins.refuses("26: without a journal", Twins::without, append(0, 0, 0), -1, Twins.RECORD);
    Trial t = new Trial("26: HALTED no more");
    Twins.halted(t.of);
    t.of.giveUp();
    t.due("append", t.of.append(0, 0, 0), 1);
  }

  private static Twins.Call waits(int who, int number) {
    return of -> of.waits(who, number) ? 1 : 0;
  }

  /** 27: One (0 .. 7) waits for a RECORD that was appended and is not ACKNOWLEDGED; refused (2), when there are none such. */
  private static void waitsOfNoneSuch() {
    for (int who : OUTSIDE_0_TO_7) {
      Twins.refuses("27: who " + who, Twins::busy, waits(who, 4), 0, Twins.RECORD);
    }
    for (int number : new int[] {Integer.MIN_VALUE, -1, 0, 1, 5, 6, Integer.MAX_VALUE}) {
      Twins.refuses("27: number " + number, Twins::busy, waits(0, number), 0, Twins.RECORD);
    }
    int[][] taken = {{0, 2}, {7, 4}, {3, 3}, {0, 4}};
    for (int[] pair : taken) {
      Trial t = new Trial("27: who " + pair[0] + " for " + pair[1]);
      Twins.busy(t.of);
      t.due("waits", t.of.waits(pair[0], pair[1]), true);
      t.due("waiter", t.of.waiter(pair[0]), pair[1]);
      t.due("has(9)", t.of.has(9), 3);
      t.due("has(13)", t.of.has(13), 11);
      t.due("status(2)", t.of.status(2), 0);
    }
    Twins.refuses("27: without a journal", Twins::without, waits(0, 0), 0, Twins.RECORD);
    Twins.refuses("27: nothing appended", Twins.told(Twins.SMALL), waits(0, 0), 0, Twins.RECORD);
    Twins.refuses("27: HALTED", Twins::halted, waits(0, 1), 0, Twins.RECORD);
  }

  /** 27: when he waits already. */
  private static void waitsAlready() {
    Twins.refuses("27: for the same", Twins::busy, waits(1, 3), 0, Twins.RECORD);
    Twins.refuses("27: for another", Twins::busy, waits(1, 4), 0, Twins.RECORD);
    Twins.refuses("27: for another", Twins::busy, waits(2, 2), 0, Twins.RECORD);
    Trial t = new Trial("27: who was released waits no more");
    Twins.busy(t.of);
    t.of.ticks(3);
    t.due("waits(1, 4)", t.of.waits(1, 4), true);
    t.due("waits(2, 4)", t.of.waits(2, 4), false);
    t.due("waits(6, 4)", t.of.waits(6, 4), true);
  }

  /** 28: n TICKS (1 .. 100); NONE, refused (3), when it can't be (without a journal). */
  private static void ticksThatCantBe() {
    for (int n : OUTSIDE_1_TO_100) {
      Twins.refuses("28: ticks(" + n + ")", Twins::busy, of -> of.ticks(n), -1, Twins.TICK);
    }
    for (int n : new int[] {1, 100}) {
      Twins.refuses("28: without a journal", Twins::without, of -> of.ticks(n), -1, Twins.TICK);
      Trial t = new Trial("28: ticks(" + n + ")");
      Twins.busy(t.of);
      t.due("ticks", t.of.ticks(n), n == 1 ? 0 : 1);
      t.due("has(2)", t.of.has(2), 5 + n);
      t.due("has(13)", t.of.has(13), 11);
      t = new Trial("28: HALTED");
      Twins.halted(t.of);
      t.due("ticks", t.of.ticks(n), 0);
      t.due("has(2)", t.of.has(2), 2 + n);
    }
  }

  /** 28, II: beyond TICK 999. */
  private static void ticksNotBeyond999() {
    int[][] beyond = {{999, 1}, {999, 100}, {998, 2}, {950, 50}, {900, 100}};
    for (int[] pair : beyond) {
      Twins.refuses("28: " + pair[1] + " from " + pair[0], Twins.atTick(pair[0], Twins.SMALL + "noise 50;"),
          of -> of.ticks(pair[1]), -1, Twins.TICK);
    }
    int[][] taken = {{998, 1}, {997, 2}, {950, 49}, {899, 100}};
    for (int[] pair : taken) {
      Trial t = new Trial("28: " + pair[1] + " from " + pair[0]);
      Twins.atTick(pair[0], Twins.SMALL).on(t.of);
      t.due("ticks", t.of.ticks(pair[1]), 0);
      t.due("has(2)", t.of.has(2), 999);
    }
  }

  /** 28: how many are RELEASED. */
  private static void ticksHowManyAreReleased() {
    Trial t = new Trial("28: none, some, all");
    Twins.busy(t.of);
    for (int who : new int[] {0, 3, 4}) {
      t.of.waits(who, 2);
    }
    t.due("ticks(2)", t.of.ticks(2), 0);
    t.due("ticks(1)", t.of.ticks(1), 4);
    t.due("has(9)", t.of.has(9), 1);
    t = Trial.told("28: all eight over two groups", Twins.GREAT + "closes all;takes 1;put 1 1 size 0;");
    for (int who = 0; who < 4; who++) {
      t.of.waits(who, 0);
    }
    t.of.ticks(1);
    t.of.append(1, 1, 0);
    for (int who = 4; who < 8; who++) {
      t.of.waits(who, 1);
    }
    t.due("ticks(2)", t.of.ticks(2), 8);
  }

  /** 29: n TICKS by the seed (1 .. 100); NONE, refused (3), when it can't be. */
  private static void chanceThatCantBe() {
    for (int n : OUTSIDE_1_TO_100) {
      Twins.refuses("29: chance(" + n + ")", Twins::busy, of -> of.chance(n), -1, Twins.TICK);
    }
    for (int n : new int[] {1, 100}) {
      Twins.refuses("29: without a journal", Twins::without, of -> of.chance(n), -1, Twins.TICK);
      Trial t = Trial.told("29: chance(" + n + ")", Twins.SMALL + "noise 100;");
      t.due("chance", t.of.chance(n), n);
      t.due("has(2)", t.of.has(2), n);
    }
  }

  /** 29, II: beyond TICK 999. */
  private static void chanceNotBeyond999() {
    int[][] beyond = {{999, 1}, {999, 100}, {998, 2}, {950, 50}, {900, 100}};
    for (int[] pair : beyond) {
      Twins.refuses("29: " + pair[1] + " from " + pair[0], Twins.atTick(pair[0], Twins.SMALL + "noise 50;"),
          of -> of.chance(pair[1]), -1, Twins.TICK);
    }
    int[][] taken = {{998, 1}, {950, 49}, {899, 100}};
    for (int[] pair : taken) {
      Trial t = new Trial("29: " + pair[1] + " from " + pair[0]);
      Twins.atTick(pair[0], Twins.SMALL + "noise 100;").on(t.of);
      t.due("chance", t.of.chance(pair[1]), pair[1]);
      t.due("has(2)", t.of.has(2), 999);
    }
  }

  /** 29: one ACT. */
  private static void chanceIsOneAct() {
    Trial t = Trial.told("29: one ACT", Twins.SMALL + "noise 100;closes all;takes 2;put 1 1 size 0;");
    t.of.waits(0, 0);
    t.due("chance(100)", t.of.chance(100), 100);
    t.due("has(13)", t.of.has(13), 2);
    t.due("has(11)", t.of.has(11), 1);
    t.due("undo()", t.of.undo(), true);
    t.has(2, 32, 0, 1, 0, 1, 0, 0, 0, 1, 0, 0, 0, 1, 0);
  }

  /** 29: TICKS by the seed: a GROUP closes by its TEST. */
  private static void chanceByTheTest() {
    Trial t = Trial.told("29: by its TEST", Twins.SMALL + "closes age>1;takes 1;put 1 1 size 0;put 1 1 size 0;");
    t.of.chance(2);
    t.due("has(5)", t.of.has(5), 2);
    t.of.chance(1);
    t.due("has(5)", t.of.has(5), 0);
    t.due("has(6)", t.of.has(6), 18);
    t.of.chance(1);
    t.due("has(4)", t.of.has(4), 2);
  }

  /** 30: NONE, refused (4), when it has that already. */
  private static void snapWhenItHasThat() {
    Twins.refuses("30: at first", Twins.told(Twins.SMALL + "put 1 1 size 0;"), of -> of.snap(), -1, Twins.DISK);
    Twins.refuses("30: what is on its way is not ACKNOWLEDGED", Twins::busy, of -> of.snap(), -1, Twins.DISK);
    Trial t = new Trial("30: the first one not ACKNOWLEDGED");
    Twins.busy(t.of);
    t.of.ticks(3);
    t.due("snap()", t.of.snap(), 4);
    t.due("has(8)", t.of.has(8), 4);
    t.due("recovers(0, 4)", t.of.recovers(0, 4), 4);
    t.due("snap(), it has that already", t.of.snap(), -1);
    t.due("status(4)", t.of.status(4), 1);
    t = Trial.told("30: one more", Twins.SMALL + "closes all;takes 1;put 1 1 size 0;");
    t.of.ticks(2);
    t.due("snap()", t.of.snap(), 1);
    Twins.refuses("30: behind a crash", of -> {
      Twins.busy(of);
      of.crash(0);
    }, of -> of.snap(), -1, Twins.DISK);
    t = new Trial("30: behind a crash of one more");
    Twins.busy(t.of);
    t.of.crash(7);
    t.due("snap()", t.of.snap(), 3);
  }

  /** 30: it is HALTED, or without a journal. */
  private static void snapHaltedOrWithout() {
    Twins.refuses("30: HALTED", Twins::halted, of -> of.snap(), -1, Twins.DISK);
    Twins.refuses("30: HALTED", Twins::groundless, of -> of.snap(), -1, Twins.DISK);
    Twins.refuses("30: without a journal", Twins::without, of -> of.snap(), -1, Twins.DISK);
    Trial t = new Trial("30: HALTED no more");
    Twins.halted(t.of);
    t.of.giveUp();
    t.due("snap()", t.of.snap(), 1);
  }

  /** 31: NONE, refused (4), when k can't be, or without a journal. */
  private static void crashThatCantBe() {
    for (int k : new int[] {Integer.MIN_VALUE, -1, 21, 22, Integer.MAX_VALUE}) {
      Twins.refuses("31: crash(" + k + ")", Twins::busy, of -> of.crash(k), -1, Twins.DISK);
    }
    Twins.refuses("31: nothing on its way", Twins.told(Twins.SMALL), of -> of.crash(1), -1, Twins.DISK);
    Twins.refuses("31: HALTED", Twins::halted, of -> of.crash(1), -1, Twins.DISK);
    Twins.refuses("31: without a journal", Twins::without, of -> of.crash(0), -1, Twins.DISK);
  }

  /** 31: A CRASH by k: the next RECORD's number. */
  private static void crashAtItsEnds() {
    for (int k = 0; k <= 20; k++) {
      Trial t = new Trial("31: crash(" + k + ")");
      Twins.busy(t.of);
      int next = k < 7 ? 2 : k < 20 ? 3 : 4;
      t.due("crash", t.of.crash(k), next);
      t.due("has(3)", t.of.has(3), next);
      t.due("has(4)", t.of.has(4), next);
      t.due("has(5)", t.of.has(5), 0);
      t.due("has(6)", t.of.has(6), 0);
      t.due("has(7)", t.of.has(7), 0);
      t.due("has(9)", t.of.has(9), 0);
      t.due("has(2)", t.of.has(2), 5);
      t.due("has(11)", t.of.has(11), 1);
      t.due("has(13)", t.of.has(13), 11);
    }
    Trial t = new Trial("31: HALTED still");
    Twins.halted(t.of);
    t.due("crash(0)", t.of.crash(0), 1);
    t.due("has(14)", t.of.has(14), 1);
    t.due("has(13)", t.of.has(13), 4);
    t = Trial.told("31: nothing on its way", Twins.SMALL + "put 1 1 size 0;");
    t.due("crash(0)", t.of.crash(0), 0);
    t.due("has(5)", t.of.has(5), 0);
  }

  /** 32: NONE, refused (4), when it is not HALTED. */
  private static void giveUpNotHalted() {
    Twins.refuses("32: not HALTED", Twins::busy, of -> of.giveUp(), -1, Twins.DISK);
    Twins.refuses("32: not HALTED", Twins.told(Twins.SMALL), of -> of.giveUp(), -1, Twins.DISK);
    Twins.refuses("32: without a journal", Twins::without, of -> of.giveUp(), -1, Twins.DISK);
    Twins.refuses("32: HALTED no more", of -> {
      Twins.halted(of);
      of.giveUp();
    }, of -> of.giveUp(), -1, Twins.DISK);
    Twins.refuses("32: HALTED no more", of -> {
      Twins.groundless(of);
      of.giveUp();
    }, of -> of.giveUp(), -1, Twins.DISK);
    Twins.refuses("32: DAMAGED, but not CRASHED", of -> {
      Twins.busy(of);
      of.flip(0, 0);
    }, of -> of.giveUp(), -1, Twins.DISK);
  }

  /** 32: how many bytes of it were not 0 (WITHOUT GROUND of all SEGMENTS). */
  private static void giveUpHowManyWereNot0() {
    Trial t = new Trial("32: behind THE END");
    Twins.halted(t.of);
    t.due("giveUp()", t.of.giveUp(), notZero(t, 12, 32, Twins::halted));
    t.due("has(13)", t.of.has(13), 4);
    t = new Trial("32: WITHOUT GROUND");
    Twins.groundless(t.of);
    t.due("giveUp()", t.of.giveUp(), notZero(t, 0, 64, Twins::groundless));
    Twins.Setup full = of -> {
      Twins.groundless(of);
      for (int at = 0; at < 64; at++) {
        if (of.octetOf(at / 32, at % 32) == 0) {
          of.flip(at / 32, at % 32);
        }
      }
    };
    t = new Trial("32: WITHOUT GROUND, no byte being 0");
    full.on(t.of);
    t.due("giveUp()", t.of.giveUp(), 64);
    t = new Trial("32: none not 0");
    Twins.tell(t.of, Twins.SMALL);
    int[] image = t.image();
    for (int at = 34; at < 98; at++) {
      image[at] = 0;
    }
    t.tapeImage(image);
    t.of.on();
    t.due("giveUp()", t.of.giveUp(), 0);
  }

  private static int notZero(Trial t, int from, int to, Twins.Setup setup) {
    Trial before = new Trial("32: before");
    setup.on(before.of);
    int count = 0;
    for (int at = from; at < to; at++) {
      count += before.of.octetOf(at / 32, at % 32) != 0 ? 1 : 0;
      t.holds("byte " + at + " is 0 or of the head", t.of.octetOf(at / 32, at % 32) == 0 || at < 5);
    }
    return count;
  }

  /** 33: NONE, refused (4), when there is none such. */
  private static void flipOfNoneSuch() {
    for (int wrong : new int[] {Integer.MIN_VALUE, -1, 32, 33, Integer.MAX_VALUE}) {
      Twins.refuses("33: flip(0, " + wrong + ")", Twins::busy, of -> of.flip(0, wrong), -1, Twins.DISK);
      Twins.refuses("33: flip(1, " + wrong + ")", Twins::busy, of -> of.flip(1, wrong), -1, Twins.DISK);
    }
    for (int wrong : new int[] {Integer.MIN_VALUE, -1, 2, 3, Integer.MAX_VALUE}) {
      Twins.refuses("33: flip(" + wrong + ", 0)", Twins::busy, of -> of.flip(wrong, 0), -1, Twins.DISK);
    }
    Twins.refuses("33: without a journal", Twins::without, of -> of.flip(0, 0), -1, Twins.DISK);
  }

  /** 33: what it is then. */
  private static void flipAtItsEnds() {
    Trial t = Trial.told("33: the first and the last", Twins.GREAT);
    t.due("flip(0, 0)", t.of.flip(0, 0), 255);
    t.due("flip(0, 1)", t.of.flip(0, 1), 254);
    t.due("flip(3, 127)", t.of.flip(3, 127), 255);
    t.due("has(10)", t.of.has(10), 3);
    t.due("flip(3, 127)", t.of.flip(3, 127), 0);
    t.due("flip(4, 0)", t.of.flip(4, 0), -1);
    t.due("flip(3, 128)", t.of.flip(3, 128), -1);
    t.due("has(10)", t.of.has(10), 2);
    t.due("has(13)", t.of.has(13), 4);
    t = new Trial("33: HALTED");
    Twins.halted(t.of);
    t.due("flip(0, 18)", t.of.flip(0, 18), 3);
  }

  private static long undo(GroupJournal of) {
    return of.undo() ? 1 : 0;
  }

  /** 34: true; false, refused (5), when none can be. */
  private static void undoWhenNoneCanBe() {
    Twins.refuses("34: without a journal", Twins::without, EdgesActsTest::undo, 0, Twins.UNDO);
    Twins.refuses("34: nothing done", Twins.told(Twins.SMALL + "put 1 1 size 0;"), EdgesActsTest::undo, 0, Twins.UNDO);
    Twins.refuses("34: all undone", of -> {
      Twins.busy(of);
      for (int i = 0; i < 10; i++) {
        of.undo();
      }
    }, EdgesActsTest::undo, 0, Twins.UNDO);
    Trial t = new Trial("34: the tenth of ten");
    Twins.busy(t.of);
    for (int i = 0; i < 10; i++) {
      t.due("undo()", t.of.undo(), true);
      t.due("has(13)", t.of.has(13), 9 - i);
    }
    t.has(2, 32, 0, 2, 0, 2, 0, 0, 0, 0, 0, 0, 1, 0, 0);
    t.due("status(5)", t.of.status(5), 0);
  }

  private static Twins.Setup flipped(int times) {
    return of -> {
      Twins.tell(of, Twins.SMALL);
      for (int at = 0; at < times; at++) {
        of.flip(at / 32, at % 32);
      }
    };
  }

  /** II: The last 20 can be undone. */
  private static void undoTheLast20() {
    for (int acts : new int[] {19, 20, 21, 40, 41}) {
      Trial t = new Trial("34: of " + acts);
      flipped(acts).on(t.of);
      int can = Math.min(20, acts);
      for (int left = can; left > 0; left--) {
        t.due("has(13)", t.of.has(13), left);
        t.due("undo()", t.of.undo(), true);
        t.due("has(10)", t.of.has(10), acts - can + left - 1);
      }
      t.due("has(13)", t.of.has(13), 0);
      t.due("undo()", t.of.undo(), false);
      t.due("has(10)", t.of.has(10), acts - can);
    }
    Twins.refuses("34: the 21st", of -> {
      flipped(21).on(of);
      for (int i = 0; i < 20; i++) {
        of.undo();
      }
    }, EdgesActsTest::undo, 0, Twins.UNDO);
  }

  /** 34: The latest ACT is undone: each kind of them leaves all as it was ahead of it. */
  private static void undoEachAct() {
    undone("append", Twins::busy, of -> of.append(1, 2, 3));
    undone("waits", Twins::busy, of -> of.waits(5, 4) ? 1 : 0);
    undone("ticks that release", Twins::busy, of -> of.ticks(3));
    undone("ticks", Twins::halted, of -> of.ticks(100));
    undone("ticks in which another group closes", of -> {
      Twins.busy(of);
      of.append(6, 60, 0);
    }, of -> of.ticks(5));

    undone("snap", of -> {
      Twins.busy(of);
      of.ticks(3);
    }, of -> of.snap());
    undone("crash by 0", Twins::busy, of -> of.crash(0));
    undone("crash by 13", Twins::busy, of -> of.crash(13));
    undone("crash that halts", of -> {
      Twins.busy(of);
      of.flip(0, 0);
    }, of -> of.crash(13));
    undone("crash that halts no more", of -> {
      Twins.halted(of);
      of.flip(0, 18);
    }, of -> of.crash(0));
    undone("giveUp", Twins::halted, of -> of.giveUp());
    undone("giveUp WITHOUT GROUND", Twins::groundless, of -> of.giveUp());
    undone("flip", Twins::busy, of -> of.flip(1, 31));
    undone("flip back", Twins::halted, of -> of.flip(0, 18));
  }

  /** 34, 15: a release that was told no more is told again. */
  private static void undoOfReleases() {
    Trial t = Trial.told("34: an older release", Twins.SMALL + "closes all;takes 1;");
    for (int round = 0; round < 5; round++) {
      int number = t.of.append(1, 1, 0);
      for (int who = 0; who < 8; who++) {
        t.of.waits(who, number);
      }
      t.of.ticks(2);
      t.of.snap();
    }
    int number = t.of.append(1, 1, 0);
    for (int who = 7; who > 4; who--) {
      t.of.waits(who, number);
    }
    t.due("ticks(2)", t.of.ticks(2), 3);
    t.due("kept(0, 1)", t.of.kept(0, 1), 3);
    t.due("kept(39, 0)", t.of.kept(39, 0), 11);
    t.due("undo()", t.of.undo(), true);
    t.due("has(11)", t.of.has(11), 40);
    for (int k = 0; k < 40; k++) {
      t.due("kept(" + k + ", 0)", t.of.kept(k, 0), 1 + k / 8 * 2);
      t.due("kept(" + k + ", 1)", t.of.kept(k, 1), k % 8);
      t.due("kept(" + k + ", 2)", t.of.kept(k, 2), k / 8);
    }
  }

  /** 34, 17: how long the first one has waited, ahead and undone. */
  private static void undoOfAges() {
    Trial t = Trial.told("34: how long it has waited", Twins.SMALL + "closes age>3;takes 1;");
    t.of.ticks(2);
    t.of.append(1, 1, 0);
    t.of.ticks(4);
    t.due("has(5), of age 3 at tick 5", t.of.has(5), 1);
    t.due("when(0)", t.of.when(0), 2);
    t.of.ticks(3);
    t.of.append(2, 2, 0);
    t.due("has(3)", t.of.has(3), 2);
    t.of.undo();
    t.of.undo();
    t.due("has(2)", t.of.has(2), 6);
    t.due("when(0)", t.of.when(0), 2);
    t.of.ticks(1);
    t.due("has(5), of age 4 at tick 6", t.of.has(5), 0);
  }

  /** The act and its undoing leave no trace. */
  private static void undone(String name, Twins.Setup setup, Twins.Call act) {
    Twins.looks("34: " + name, setup, of -> act.on(of) == -1 ? -1 : undo(of), 1);
  }

  /** 34: the seed stays. */
  private static void undoKeepsTheSeed() {
    Trial t = Trial.told("34: the seed stays", Twins.SMALL + "noise 100;");
    Trial twin = Trial.told("34: the seed's twin", Twins.SMALL + "noise 100;");
    t.of.chance(7);
    t.of.undo();
    t.of.chance(1);
    twin.of.chance(7);
    int[] before = new int[64];
    for (int at = 0; at < 64; at++) {
      before[at] = twin.of.octetOf(at / 32, at % 32);
    }
    twin.of.chance(1);
    for (int at = 0; at < 64; at++) {
      boolean flipped = before[at] != twin.of.octetOf(at / 32, at % 32);
      int first = at == 1 ? 1 : at == 4 ? 74 : 0;
      t.due("byte " + at, t.of.octetOf(at / 32, at % 32), flipped ? 255 - first : first);
    }
    t = Trial.told("34: the seed told behind an act stays", Twins.SMALL + "noise 100;");
    t.of.flip(0, 0);
    t.of.seed(123456);
    t.of.undo();
    twin = Trial.told("34: its twin", Twins.SMALL + "noise 100;");
    twin.of.seed(123456);
    t.of.chance(5);
    twin.of.chance(5);
    for (int at = 0; at < 64; at++) {
      t.due("byte " + at, t.of.octetOf(at / 32, at % 32), twin.of.octetOf(at / 32, at % 32));
    }
  }

  /** II: ACTS are those told, no other call is one. */
  private static void noActs() {
    Trial t = new Trial("II: no acts");
    Twins.busy(t.of);
    t.of.seed(9);
    Twins.lay(t.of, 1, 0, 11);
    t.of.see();
    Twins.lay(t.of, "total 1");
    t.of.ask();
    t.of.image();
    t.of.later(9, 0);
    t.of.flips(0);
    t.of.end(0);
    t.due("has(13)", t.of.has(13), 10);
    t.due("undo()", t.of.undo(), true);
    t.due("has(10), the flip being undone", t.of.has(10), 0);
    t.due("arrived(-1), what is SEEN staying", t.of.arrived(-1), 0);
  }

  /** 35: true; false, refused (6), when it is below 0. */
  private static void seedBelow0() {
    Twins.refuses("35: seed(-1)", Twins::busy, of -> of.seed(-1) ? 1 : 0, 0, Twins.SETTING);
    Twins.refuses("35: seed(MIN)", Twins::busy, of -> of.seed(Integer.MIN_VALUE) ? 1 : 0, 0, Twins.SETTING);
    Twins.refuses("35: seed(-1) without a journal", Twins::without, of -> of.seed(-1) ? 1 : 0, 0, Twins.SETTING);
    for (int seed : new int[] {0, 1, 2, Integer.MAX_VALUE - 1, Integer.MAX_VALUE}) {
      Trial t = Trial.told("35: seed(" + seed + ")", Twins.SMALL + "noise 100;");
      t.of.chance(3);
      t.of.undo();
      t.due("seed", t.of.seed(seed), true);
      t.due("status(6)", t.of.status(6), 0);
      drawn(t, seed);
    }
    Trial t = new Trial("35: without a journal");
    t.due("seed(7)", t.of.seed(7), true);
    Twins.tell(t.of, Twins.SMALL + "noise 100;");
    drawn(t, 7);
  }

  /** 35: It is 1 at first. */
  private static void seedIs1AtFirst() {
    drawn(Trial.told("35: 1 at first", Twins.SMALL + "noise 100;"), 1);
  }

  /** Ten ticks of noise 100 flip the bytes that are drawn by a seed. */
  private static void drawn(Trial t, long seed) {
    int[] disk = new int[64];
    disk[1] = 1;
    disk[4] = 74;
    long x = seed;
    for (int i = 0; i < 10; i++) {
      x = next(next(x));
      int segment = (int) (x / 64 % 2);
      x = next(x);
      int at = 32 * segment + (int) (x / 64 % 32);
      disk[at] = 255 - disk[at];
    }
    t.due("chance(10)", t.of.chance(10), 10);
    for (int at = 0; at < 64; at++) {
      t.due("byte " + at, t.of.octetOf(at / 32, at % 32), disk[at]);
    }
  }

  private static long next(long x) {
    return (1103515245L * x + 12345L) % (1L << 31);
  }
}
