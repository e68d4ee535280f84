/** The edges of promises 16 to 25 and of part III of "Terms", a test a sentence: ticks ahead, rules, room, what arrived. */
public final class EdgesAheadTest {
  private static final int[] NEITHER_0_NOR_1 = {Integer.MIN_VALUE, -1, 2, 3, Integer.MAX_VALUE};
  private static final int[] NONE_OF_THREE = {Integer.MIN_VALUE, -1, 3, 4, Integer.MAX_VALUE};

  public static void main(String[] args) {
    laterThatCantBe();
    laterOfOthers();
    laterNotBeyond999();
    whenOfNone();
    when100AtMost();
    whenNotBeyond999();
    ruleThatCantBe();
    ruleOfOthers();
    ruleOfNoRecord();
    ruleOfThoseAlone();
    rule100AtMost();
    ruleNotBeyond999();
    ruleNotAll();
    bestOfLikeOnes();
    bestOfNone();
    roomThatCantBe();
    roomForNone();
    roomOfEachShape();
    roomNothingThatWaitsLaid();
    recoversThatCantBe();
    flipsOfOthers();
    flipsOfEach();
    flipsByItself();
    seeRows();
    seeThatIsNoneSuch();
    arrivedOfNone();
    arrivedBySeen();
    tellsOfLikeOnes();
    tellsOfNone();
    Trial.close();
  }

  /** 16: Behind n TICKS AHEAD (0 .. 100); NONE when n can't be, without a journal. */
  private static void laterThatCantBe() {
    for (int n : new int[] {Integer.MIN_VALUE, -1, 101, 102, Integer.MAX_VALUE}) {
      for (int what = 0; what < 3; what++) {
        int asked = what;
        Twins.looks("16: later(" + n + ", " + what + ")", Twins::busy, of -> of.later(n, asked), -1);
      }
    }
    int[][] wanted = {{0, 2, 1, 20}, {1, 2, 1, 20}, {2, 2, 1, 20}, {3, 4, 1, 0}, {99, 4, 1, 0}, {100, 4, 1, 0}};
    for (int[] row : wanted) {
      for (int what = 0; what < 3; what++) {
        int asked = what;
        Twins.looks("16: later(" + row[0] + ", " + what + ")", Twins::busy, of -> of.later(row[0], asked), row[what + 1]);
      }
    }
    for (int n : new int[] {0, 1}) {
      Twins.looks("16: without a journal", Twins::without, of -> of.later(n, 0), -1);
    }
    Twins.looks("16: HALTED", Twins::halted, of -> of.later(100, 0), 1);
  }

  /** 16: NONE for others. */
  private static void laterOfOthers() {
    for (int what : NONE_OF_THREE) {
      Twins.looks("16: later(0, " + what + ")", Twins::busy, of -> of.later(0, what), -1);
      Twins.looks("16: later(3, " + what + ")", Twins::busy, of -> of.later(3, what), -1);
    }
  }

  /** III: TICKS AHEAD (100 at most, not beyond TICK 999). */
  private static void laterNotBeyond999() {
    Twins.Setup at = Twins.atTick(950, Twins.SMALL + "closes tick>997;put 1 1 size 0;");
    Twins.looks("16: to TICK 998", at, of -> of.later(48, 1), 1);
    Twins.looks("16: to TICK 999", at, of -> of.later(49, 1), 0);
    Twins.looks("16: to TICK 1000", at, of -> of.later(50, 1), -1);
    Twins.Setup last = Twins.atTick(999, Twins.SMALL);
    Twins.looks("16: now, at TICK 999", last, of -> of.later(0, 1), 0);
    Twins.looks("16: behind TICK 999", last, of -> of.later(1, 1), -1);
  }

  /** 17: NONE when it is not, or there is none such. */
  private static void whenOfNone() {
    int[] wanted = {0, 0, 3, 3, -1, -1};
    for (int number = 0; number < wanted.length; number++) {
      int asked = number;
      Twins.looks("17: when(" + number + ")", Twins::busy, of -> of.when(asked), wanted[number]);
    }
    for (int number : new int[] {Integer.MIN_VALUE, -1, 5, 6, Integer.MAX_VALUE}) {
      Twins.looks("17: when(" + number + ")", Twins::busy, of -> of.when(number), -1);
    }
    Twins.looks("17: without a journal", Twins::without, of -> of.when(0), -1);
    Twins.looks("17: HALTED, acknowledged", Twins::halted, of -> of.when(0), 0);
    Twins.looks("17: HALTED, lost", Twins::halted, of -> of.when(1), -1);
  }

  /** 17: 0: now; 100 at most. */
  private static void when100AtMost() {
    Twins.looks("17: behind 1", of -> {
      Twins.tell(of, Twins.SMALL + "closes all;takes 1;put 1 1 size 0;");
      of.ticks(1);
    }, of -> of.when(0), 1);
    Twins.looks("17: behind 99", Twins.told(Twins.SMALL + "closes all;takes 98;put 1 1 size 0;"), of -> of.when(0), 99);
    Twins.looks("17: behind 100", Twins.told(Twins.SMALL + "closes all;takes 99;put 1 1 size 0;"), of -> of.when(0), 100);
    Twins.looks("17: behind 101", Twins.told(Twins.SMALL + "closes tick>0;takes 99;put 1 1 size 0;"), of -> of.when(0), -1);
  }

  private static Twins.Setup appendedAt(int tick, String text) {
    return of -> {
      Twins.atTick(tick, text).on(of);
      of.append(1, 1, 0);
    };
  }

  /** III: not beyond TICK 999. */
  private static void whenNotBeyond999() {
    String text = Twins.SMALL + "closes all;takes 5;";
    Twins.looks("17: at TICK 999", appendedAt(993, text), of -> of.when(0), 6);
    Twins.looks("17: at TICK 1000", appendedAt(994, text), of -> of.when(0), -1);
    Twins.looks("17: never", appendedAt(999, text), of -> of.when(0), -1);
    Twins.looks("17: both ends", appendedAt(899, Twins.SMALL + "closes all;takes 99;"), of -> of.when(0), 100);
    Twins.looks("17: both ends", appendedAt(900, Twins.SMALL + "closes all;takes 99;"), of -> of.when(0), -1);
  }

  /** 18: By a RULE of r (1 .. 8); NONE when r can't be, it is HALTED, without a journal. */
  private static void ruleThatCantBe() {
    for (int r : new int[] {Integer.MIN_VALUE, -1, 0, 9, 10, Integer.MAX_VALUE}) {
      Twins.looks("18: rule(" + r + ", 0)", Twins::busy, of -> of.rule(r, 0), -1);
      Twins.looks("18: rule(" + r + ", 1)", Twins::busy, of -> of.rule(r, 1), -1);
    }
    for (int r : new int[] {1, 8}) {
      Twins.looks("18: rule(" + r + ", 0)", Twins::busy, of -> of.rule(r, 0), 6);
      Twins.looks("18: rule(" + r + ", 1)", Twins::busy, of -> of.rule(r, 1), 3 + 3 + 6);
      Twins.looks("18: HALTED", Twins::halted, of -> of.rule(r, 0), -1);
      Twins.looks("18: HALTED", Twins::groundless, of -> of.rule(r, 1), -1);
      Twins.looks("18: without a journal", Twins::without, of -> of.rule(r, 0), -1);
      Twins.looks("18: without a journal", Twins::without, of -> of.rule(r, 1), -1);
    }
  }

  /** 18: NONE for others. */
  private static void ruleOfOthers() {
    for (int what : NEITHER_0_NOR_1) {
      Twins.looks("18: rule(1, " + what + ")", Twins::busy, of -> of.rule(1, what), -1);
      Twins.looks("18: rule(1, " + what + "), nothing waiting", Twins.told(Twins.SMALL), of -> of.rule(1, what), -1);
    }
  }

  /** 18: all that is on its way or waits, if there is nothing. */
  private static void ruleOfNoRecord() {
    Twins.Setup nothing = Twins.told(Twins.SMALL);
    Twins.looks("18: nothing waits", nothing, of -> of.rule(8, 0), 0);
    Twins.looks("18: nothing waits", nothing, of -> of.rule(1, 1), 0);
    Twins.looks("19: nothing waits", nothing, of -> of.best(0), 1);
    Twins.looks("19: nothing waits", nothing, of -> of.best(1), 0);
    Twins.Setup last = Twins.atTick(999, Twins.SMALL);
    Twins.looks("18: nothing waits at TICK 999", last, of -> of.rule(1, 0), 0);
    Twins.looks("19: nothing waits at TICK 999", last, of -> of.best(0), 1);
    Twins.Setup way = of -> {
      Twins.tell(of, Twins.SMALL + "closes all;takes 4;put 1 1 size 0;");
      of.ticks(3);
    };
    Twins.looks("18: on its way alone", way, of -> of.rule(5, 0), 2);
    Twins.looks("18: on its way alone", way, of -> of.rule(5, 1), 2);
  }

  /** III: as soon as r RECORDS wait or more (with those r alone), or no more than are there. */
  private static void ruleOfThoseAlone() {
    String nine = Twins.GREAT + "closes 1=2;takes records;" + "put 1 1 size 0;".repeat(9);
    // by r: groups of r and what is left, each as many ticks as it has records, the first tick closing the first group
    for (int r = 1; r <= 8; r++) {
      int sum = 0;
      int end = 1;
      for (int left = 9; left > 0; left -= r) {
        int group = Math.min(left, r);
        end += group;
        sum += group * end;
      }
      int rule = r;
      int wanted = sum;
      int ended = end;
      Twins.looks("18: rule(" + r + ", 0) of nine", Twins.told(nine), of -> of.rule(rule, 0), ended);
      Twins.looks("18: rule(" + r + ", 1) of nine", Twins.told(nine), of -> of.rule(rule, 1), wanted);
    }
    Twins.Setup three = Twins.told(Twins.GREAT + "closes all;takes 10;" + "put 1 1 size 0;".repeat(3));
    Twins.looks("18: two and one", three, of -> of.rule(2, 1), 11 + 11 + 21);
    Twins.looks("18: just three", three, of -> of.rule(3, 1), 33);
    Twins.looks("18: no more than are there", three, of -> of.rule(4, 1), 33);
  }

  /** 18: 100 at most. */
  private static void rule100AtMost() {
    Twins.Setup hundred = Twins.told(Twins.SMALL + "closes 1=2;takes 99;put 1 1 size 0;");
    Twins.looks("18: behind 100", hundred, of -> of.rule(1, 0), 100);
    Twins.looks("18: behind 100", hundred, of -> of.rule(1, 1), 100);
    Twins.looks("19: behind 100", hundred, of -> of.best(1), 100);
    Twins.Setup two = Twins.told(Twins.SMALL + "closes 1=2;takes 50;put 1 1 size 0;put 1 1 size 0;");
    Twins.looks("18: behind 101", two, of -> of.rule(1, 0), -1);
    Twins.looks("18: behind 101", two, of -> of.rule(1, 1), -1);
    Twins.looks("18: behind 51", two, of -> of.rule(2, 1), 102);
    Twins.looks("19: the only one that ends", two, of -> of.best(0), 2);
    two = Twins.told(Twins.SMALL + "closes 1=2;takes 49+payload/4;put 1 1 size 0;put 1 1 size 1;");
    Twins.looks("18: behind 1 + 49 + 50", two, of -> of.rule(1, 0), 100);
    Twins.looks("18: behind 50 and 100", two, of -> of.rule(1, 1), 150);
  }

  /** III: not beyond TICK 999. */
  private static void ruleNotBeyond999() {
    String text = Twins.SMALL + "closes 1=2;takes 5;";
    Twins.looks("18: at TICK 999", appendedAt(993, text), of -> of.rule(1, 0), 6);
    Twins.looks("18: at TICK 1000", appendedAt(994, text), of -> of.rule(1, 0), -1);
    Twins.looks("18: at TICK 1000", appendedAt(994, text), of -> of.rule(1, 1), -1);
    Twins.looks("19: at TICK 1000", appendedAt(994, text), of -> of.best(0), -1);
    Twins.looks("18: both ends", appendedAt(899, Twins.SMALL + "closes 1=2;takes 99;"), of -> of.rule(1, 0), 100);
    Twins.looks("18: both ends", appendedAt(900, Twins.SMALL + "closes 1=2;takes 99;"), of -> of.rule(1, 0), -1);
  }

  /** 18: NONE when not all are. */
  private static void ruleNotAll() {
    // segment 0 takes two of size 4, segment 1 two more; of three groups of two the last has no room
    Twins.Setup five = Twins.told(Twins.SMALL + "closes 1=2;takes 1;" + "put 1 1 size 4;".repeat(5));
    for (int r = 1; r <= 8; r++) {
      int rule = r;
      Twins.looks("18: one has no room, by " + r, five, of -> of.rule(rule, 0), -1);
      Twins.looks("18: one has no room, by " + r, five, of -> of.rule(rule, 1), -1);
    }
    Twins.looks("19: by none all are", five, of -> of.best(0), -1);
    Twins.looks("19: by none all are", five, of -> of.best(1), -1);
    Twins.Setup four = Twins.told(Twins.SMALL + "closes 1=2;takes 1;" + "put 1 1 size 4;".repeat(4));
    Twins.looks("18: all have room", four, of -> of.rule(8, 0), 2);
  }

  /** 19: The RULE by which all together wait least; of like ones the first. */
  private static void bestOfLikeOnes() {
    String text = Twins.GREAT + "closes 1=2;takes 5;";
    Twins.looks("19: all alike", Twins.told(text + "put 1 1 size 0;"), of -> of.best(0), 1);
    Twins.looks("19: all alike", Twins.told(text + "put 1 1 size 0;"), of -> of.best(1), 6);
    Twins.looks("19: from 3 on alike", Twins.told(text + "put 1 1 size 0;".repeat(3)), of -> of.best(0), 3);
    Twins.looks("19: from 3 on alike", Twins.told(text + "put 1 1 size 0;".repeat(3)), of -> of.best(1), 18);
    Twins.looks("19: 8 alone", Twins.told(text + "put 1 1 size 0;".repeat(16)), of -> of.best(0), 8);
    Twins.looks("19: 8 alone", Twins.told(text + "put 1 1 size 0;".repeat(16)), of -> of.best(1), 8 * 6 + 8 * 11);
    // by 1: 2 + 3, by 2: 3 + 3
    Twins.Setup two = Twins.told(Twins.GREAT + "closes 1=2;takes records;put 1 1 size 0;put 1 1 size 0;");
    Twins.looks("19: 1 before 2", two, of -> of.best(0), 1);
    Twins.looks("19: 1 before 2", two, of -> of.best(1), 5);
    // by 1: 3 + 5, by 2: 4 + 4, the rest as by 2
    two = Twins.told(Twins.GREAT + "closes 1=2;takes 1+records;put 1 1 size 0;put 1 1 size 0;");
    Twins.looks("19: like ones", two, of -> of.best(0), 1);
    Twins.looks("19: like ones", two, of -> of.best(1), 8);
  }

  /** 19: NONE when there is none, or for others. */
  private static void bestOfNone() {
    for (int what : new int[] {0, 1}) {
      Twins.looks("19: HALTED", Twins::halted, of -> of.best(what), -1);
      Twins.looks("19: HALTED", Twins::groundless, of -> of.best(what), -1);
      Twins.looks("19: without a journal", Twins::without, of -> of.best(what), -1);
    }
    for (int what : NEITHER_0_NOR_1) {
      Twins.looks("19: best(" + what + ")", Twins::busy, of -> of.best(what), -1);
    }
    Twins.looks("19: best(0)", Twins::busy, of -> of.best(0), 1);
    Twins.looks("19: best(1)", Twins::busy, of -> of.best(1), 12);
  }

  /** 20: a SIZE (0 .. 40); NONE when that can't be, it is HALTED, or without a journal. */
  private static void roomThatCantBe() {
    for (int size : new int[] {Integer.MIN_VALUE, -1, 41, 42, Integer.MAX_VALUE}) {
      Twins.looks("20: room(" + size + ")", Twins::busy, of -> of.room(size), -1);
      Twins.looks("20: room(" + size + ") of the greatest", Twins.told(Twins.GREAT), of -> of.room(size), -1);
    }
    for (int size : new int[] {0, 40}) {
      Twins.looks("20: HALTED", Twins::halted, of -> of.room(size), -1);
      Twins.looks("20: HALTED", Twins::groundless, of -> of.room(size), -1);
      Twins.looks("20: without a journal", Twins::without, of -> of.room(size), -1);
    }
    Twins.looks("20: given up", of -> {
      Twins.groundless(of);
      of.giveUp();
    }, of -> of.room(16), 2);
    Twins.looks("20: room(0) of the greatest", Twins.told(Twins.GREAT), of -> of.room(0), 60);
    Twins.looks("20: room(40) of the greatest", Twins.told(Twins.GREAT), of -> of.room(40), 8);
  }

  /** 20: How many have room, to none. */
  private static void roomForNone() {
    Twins.Setup small = Twins.told(Twins.SMALL);
    Twins.looks("20: just as much as a SEGMENT has behind its HEAD", small, of -> of.room(16), 2);
    Twins.looks("20: one byte more", small, of -> of.room(17), 0);
    Twins.looks("20: the greatest", small, of -> of.room(40), 0);
    Twins.Setup full = of -> {
      Twins.tell(of, Twins.SMALL + "closes all;takes 1;put 1 1 size 16;put 1 1 size 11;");
      of.ticks(2);
    };
    // 14 bytes of payload: 7 behind the head, 7 in the next block, behind which are 5 bytes: too few for a payload of 3
    Twins.looks("20: no room any more", full, of -> of.room(0), 0);
    Twins.looks("20: segment 0 being FREE", of -> {
      full.on(of);
      of.snap();
    }, of -> of.room(16), 1);
    Twins.looks("20: of 9 bytes left", of -> {
      Twins.tell(of, Twins.SMALL + "closes all;takes 1;put 1 1 size 16;put 1 1 size 9;");
      of.ticks(2);
    }, of -> of.room(0), 1);
  }

  /** 20: in each shape as many as can be laid, FRAME by FRAME. */
  private static void roomOfEachShape() {
    for (int blocks = 2; blocks <= 4; blocks++) {
      for (int bytes = 16; bytes <= 32; bytes++) {
        Trial t = Trial.told("20: blocks " + blocks + " bytes " + bytes, "journal 3 blocks " + blocks + " bytes " + bytes + ";");
        for (int size = 0; size <= 40; size++) {
          t.due("room(" + size + ")", t.of.room(size), 3 * laid(blocks, bytes, 3 + size));
        }
      }
    }
  }

  /** How many records of so much payload a segment has room for behind its head. */
  private static int laid(int blocks, int bytes, int payload) {
    int at = 5;
    for (int count = 0; ; count++) {
      for (int left = payload; left > 0; ) {
        int ofBlock = bytes - at % bytes;
        if (ofBlock < 5) {
          at += ofBlock;
        }
        if (at >= blocks * bytes) {
          return count;
        }
        int part = Math.min(left, bytes - at % bytes - 4);
        at += 4 + part;
        left -= part;
      }
    }
  }

  /** 20: from THE PLACE on, nothing that waits being laid. */
  private static void roomNothingThatWaitsLaid() {
    Twins.Setup waiting = Twins.told(Twins.SMALL + "closes 1=2;" + "put 1 1 size 16;".repeat(3));
    Twins.looks("20: three wait", waiting, of -> of.room(16), 2);
    Twins.Setup way = of -> {
      Twins.tell(of, Twins.SMALL + "closes all;takes 9;put 1 1 size 16;");
      of.ticks(1);
      of.append(1, 1, 16);
    };
    Twins.looks("20: one is on its way, one waits", way, of -> of.room(16), 1);
  }

  /** 21: CRASHED now by k (0 .. bytes on their way); NONE when k can't be, without a journal, or for others. */
  private static void recoversThatCantBe() {
    for (int k : new int[] {Integer.MIN_VALUE, -1, 21, 22, Integer.MAX_VALUE}) {
      for (int what = 0; what < 5; what++) {
        int asked = what;
        Twins.looks("21: recovers(" + k + ", " + what + ")", Twins::busy, of -> of.recovers(k, asked), -1);
      }
    }
    int[] none = {2, 0, 0, 23, 2};
    int[] all = {4, 0, 1, 13, 4};
    for (int what = 0; what < 5; what++) {
      int asked = what;
      Twins.looks("21: recovers(0, " + what + ")", Twins::busy, of -> of.recovers(0, asked), none[what]);
      Twins.looks("21: recovers(20, " + what + ")", Twins::busy, of -> of.recovers(20, asked), all[what]);
      Twins.looks("21: without a journal", Twins::without, of -> of.recovers(0, asked), -1);
    }
    for (int what : new int[] {Integer.MIN_VALUE, -1, 5, 6, Integer.MAX_VALUE}) {
      Twins.looks("21: recovers(0, " + what + ")", Twins::busy, of -> of.recovers(0, what), -1);
    }
    Twins.looks("21: nothing on its way", Twins.told(Twins.SMALL), of -> of.recovers(0, 3), 5);
    Twins.looks("21: nothing on its way", Twins.told(Twins.SMALL), of -> of.recovers(1, 3), -1);
    Twins.looks("21: HALTED", Twins::halted, of -> of.recovers(0, 1), 1);
    Twins.looks("21: WITHOUT GROUND", Twins::groundless, of -> of.recovers(0, 3), 5);
    Twins.looks("21: WITHOUT GROUND, the table of the SNAP", Twins::groundless, of -> of.recovers(0, 4), 1);
  }

  /** 22: NONE without a journal, or for others. */
  private static void flipsOfOthers() {
    for (int what : NONE_OF_THREE) {
      Twins.looks("22: flips(" + what + ")", Twins::busy, of -> of.flips(what), -1);
    }
    for (int what = 0; what < 3; what++) {
      int asked = what;
      Twins.looks("22: without a journal", Twins::without, of -> of.flips(asked), -1);
    }
  }

  /** 22: Of all bytes of all SEGMENTS, each one FLIPPED alone, and CRASHED by 0 then. */
  private static void flipsOfEach() {
    Twins.Setup[] setups = {Twins::busy, Twins::halted, Twins::groundless, EdgesAheadTest::withoutASnap, Twins.told(Twins.SMALL)};
    for (Twins.Setup setup : setups) {
      Trial t = new Trial("22: each one");
      setup.on(t.of);
      int next = t.of.recovers(0, 0);
      int[] wanted = new int[3];
      for (int at = 0; at < 64; at++) {
        t.of.flip(at / 32, at % 32);
        wanted[t.of.recovers(0, 1) == 1 ? 0 : t.of.recovers(0, 0) < next ? 1 : 2]++;
        t.of.undo();
      }
      for (int what = 0; what < 3; what++) {
        t.due("flips(" + what + ")", t.of.flips(what), wanted[what]);
      }
    }
    Twins.looks("22: a head alone", Twins.told(Twins.SMALL), of -> of.flips(0), 5);
    Twins.looks("22: a head alone", Twins.told(Twins.SMALL), of -> of.flips(1), 0);
    Twins.looks("22: a head alone", Twins.told(Twins.SMALL), of -> of.flips(2), 59);
    Twins.looks("22: all of the greatest", Twins.told(Twins.GREAT), of -> of.flips(2), 512 - 5);
    // it is DAMAGED without: one flip back heals it, each of the 7 bytes of the record behind leaves a torn tail
    Twins.looks("22: HALTED", Twins::halted, of -> of.flips(2), 8);
  }

  /** Two records of 7 bytes, 4 bytes left over between them, none below the SNAP. */
  private static void withoutASnap(GroupJournal of) {
    Twins.tell(of, Twins.SMALL + "closes all;takes 1;put 1 5 size 0;put 2 300 size 0;");
    of.ticks(2);
  }

  /** 22: the next number less than without: whatever was asked ahead of it. */
  private static void flipsByItself() {
    int[] wanted = {12, 7, 45};
    for (int what = 0; what < 3; what++) {
      int asked = what;
      Twins.looks("22: the second record lost", EdgesAheadTest::withoutASnap, of -> of.flips(asked), wanted[what]);
      Twins.looks("22: asked of another crash", Twins::busy, of -> of.recovers(20, 0) == 4 ? of.flips(asked) : -9,
          what == 0 ? 19 : what == 1 ? 0 : 45);
    }
  }

  private static int[] rows(int count, int... row) {
    int[] rows = new int[3 * count];
    for (int i = 0; i < rows.length; i++) {
      rows[i] = row[i % 3];
    }
    return rows;
  }

  /** 23: 1 to 16 rows of three bytes (KEY; VALUE, two bytes, the higher first): how many rows. */
  private static void seeRows() {
    int[][] told = {rows(1, 0, 0, 0), rows(2, 15, 3, 232), rows(15, 15, 3, 231), rows(16, 0, 3, 232), rows(3, 7, 1, 0)};
    for (int[] rows : told) {
      Trial t = new Trial("23: " + rows.length / 3 + " rows");
      Twins.busy(t.of);
      Twins.lay(t.of, rows);
      t.due("see()", t.of.see(), rows.length / 3);
      t.due("has(12)", t.of.has(12), rows.length / 3);
      t.due("end(1), the tape having gone", t.of.end(1), false);
      t.due("status(1)", t.of.status(1), 0);
      t.due("has(13), no act", t.of.has(13), 10);
    }
    int[] last = rows(16, 9, 3, 232);
    last[45] = 3;
    last[46] = 0;
    last[47] = 30;
    Twins.looks("23: the last of 16 rows", seen(last), of -> of.arrived(-1), 14);
    Trial t = new Trial("23: what is SEEN, not what was");
    Twins.busy(t.of);
    Twins.lay(t.of, rows(1, 1, 0, 11));
    t.of.see();
    t.due("arrived(-1)", t.of.arrived(-1), 0);
    Twins.lay(t.of, rows(1, 1, 0, 10));
    t.of.see();
    t.due("arrived(-1)", t.of.arrived(-1), 21);
  }

  /** 23: NONE, refused (1), all staying, when it is none such, or without a journal. */
  private static void seeThatIsNoneSuch() {
    int[][] wrong = {{}, {0}, {0, 0}, rows(17, 0, 0, 0), rows(100, 0, 0, 0), new int[4], new int[5], new int[47], new int[49],
      rows(1, 16, 0, 0), rows(1, 255, 0, 0), rows(1, 128, 0, 0), rows(1, 0, 3, 233), rows(1, 0, 4, 0), rows(1, 0, 255, 255),
      rows(1, 0, 128, 0), {0, 0, 0, 16, 0, 0}, {0, 0, 0, 0, 3, 233}, {16, 0, 0, 0, 0, 0}, {0, 3, 233, 0, 0, 0}};
    for (int[] octets : wrong) {
      Twins.refusesTape("23: of " + octets.length + " bytes", Twins::busy, of -> {
        Twins.lay(of, octets);
        return of.see();
      }, -1, Twins.TEXT);
    }
    Twins.refusesTape("23: without a journal", Twins::without, of -> {
      Twins.lay(of, rows(1, 0, 0, 0));
      return of.see();
    }, -1, Twins.TEXT);
    Twins.refusesTape("23: HALTED", Twins::halted, of -> {
      Twins.lay(of, rows(1, 16, 0, 0));
      return of.see();
    }, -1, Twins.TEXT);
  }

  /** 24: how many (k NONE), the k-th, rising; NONE when there is none such, or without a journal. */
  private static void arrivedOfNone() {
    Twins.looks("24: how many", Twins::busy, of -> of.arrived(-1), 21);
    Twins.looks("24: the first", Twins::busy, of -> of.arrived(0), 0);
    Twins.looks("24: the last", Twins::busy, of -> of.arrived(20), 20);
    for (int k : new int[] {Integer.MIN_VALUE, -2, 21, 22, Integer.MAX_VALUE}) {
      Twins.looks("24: arrived(" + k + ")", Twins::busy, of -> of.arrived(k), -1);
    }
    for (int k : new int[] {-2, -1, 0, 1}) {
      Twins.looks("24: without a journal", Twins::without, of -> of.arrived(k), -1);
    }
    Twins.looks("24: nothing on its way", Twins.told(Twins.SMALL), of -> of.arrived(-1), 1);
    Twins.looks("24: nothing on its way", Twins.told(Twins.SMALL), of -> of.arrived(0), 0);
    Twins.looks("24: nothing on its way", Twins.told(Twins.SMALL), of -> of.arrived(1), -1);
    Twins.looks("24: HALTED", Twins::halted, of -> of.arrived(-1), 1);
  }

  private static Twins.Setup seen(int... rows) {
    return of -> {
      Twins.busy(of);
      Twins.lay(of, rows);
      of.see();
    };
  }

  /** III: ARRIVED are those k (0 .. bytes on their way) by which, CRASHED now, the TABLE is so; VALUE 1000: none. */
  private static void arrivedBySeen() {
    // record 2 (key 3) is there from 7 bytes on, record 3 (key 4) by all 20, opened by 12
    int[][] rows = {{3, 3, 232}, {3, 0, 30}, {4, 3, 232}, {4, 0, 40}, {1, 3, 232}, {9, 3, 232}, {9, 0, 0}, {3, 0, 31}};
    int[] first = {0, 7, 0, 20, -1, 0, -1, -1};
    int[] last = {6, 20, 19, 20, -1, 20, -1, -1};
    for (int i = 0; i < rows.length; i++) {
      int from = first[i];
      int count = from < 0 ? 0 : last[i] - from + 1;
      Twins.looks("24: how many", seen(rows[i]), of -> of.arrived(-1), count);
      Twins.looks("24: the first", seen(rows[i]), of -> of.arrived(0), from);
      Twins.looks("24: the last", seen(rows[i]), of -> of.arrived(Math.max(0, count - 1)), last[i]);
      Twins.looks("24: behind the last", seen(rows[i]), of -> of.arrived(count), -1);
    }
    Twins.looks("24: both rows", seen(3, 0, 30, 4, 3, 232), of -> of.arrived(-1), 13);
    Twins.looks("24: rows against one another", seen(3, 0, 30, 3, 3, 232), of -> of.arrived(-1), 0);
    Twins.looks("24: all, if nothing is", Twins.told(Twins.SMALL), of -> of.arrived(-1), 1);
  }

  /** 25, III: the most ARRIVED left are fewest; of like ones the first. */
  private static void tellsOfLikeOnes() {
    // by key 3: 7 and 14, by key 4: 20 and 1, by all others: 21
    Twins.looks("25: the key", Twins::busy, of -> of.tells(0), 3);
    Twins.looks("25: left at the most", Twins::busy, of -> of.tells(1), 14);
    Twins.looks("25: of two like ones the first", seen(3, 0, 30, 4, 0, 40), of -> of.tells(0), 0);
    Twins.looks("25: one left", seen(3, 0, 30, 4, 0, 40), of -> of.tells(1), 1);
    Twins.looks("25: key 4", seen(3, 0, 30), of -> of.tells(0), 4);
    Twins.looks("25: 13 and 1", seen(3, 0, 30), of -> of.tells(1), 13);
    Trial t = Trial.told("25: key 15, the last", Twins.SMALL + "closes all;takes 2;put 15 0 size 0;");
    t.of.ticks(1);
    // its last two bytes are 0, as they are on the disk
    t.due("tells(0)", t.of.tells(0), 15);
    t.due("tells(1)", t.of.tells(1), 5);
    t = Trial.told("25: key 0, the first", Twins.SMALL + "closes all;takes 2;put 0 999 size 0;");
    t.of.ticks(1);
    t.due("tells(0)", t.of.tells(0), 0);
    t.due("tells(1)", t.of.tells(1), 7);
    for (int key : new int[] {0, 1, 14, 15}) {
      for (int value : new int[] {0, 1, 998, 999}) {
        t = Trial.told("25: most by " + value + " of " + key, Twins.SMALL + "closes all;takes 2;put " + key + " " + value
            + " size 0;put 7 5 size 0;");
        t.of.ticks(1);
        // a last byte that is 0 is there before it arrives
        int without = value == 0 ? key == 0 ? 4 : 5 : 7;
        t.due("tells(0)", t.of.tells(0), key);
        t.due("tells(1)", t.of.tells(1), 19 - without);
      }
    }
    t = Trial.told("25: like ones", Twins.SMALL + "closes all;takes 2;put 6 1 size 0;put 5 1 size 0;put 6 2 size 0;");
    t.of.ticks(1);
    // by 6: 7 without, 18 by 1, 1 by 2; by 5: 18 without
    t.due("tells(0)", t.of.tells(0), 5);
  }

  /** 25: NONE without any, without a journal, or for others. */
  private static void tellsOfNone() {
    for (int what : NEITHER_0_NOR_1) {
      Twins.looks("25: tells(" + what + ")", Twins::busy, of -> of.tells(what), -1);
    }
    for (int what : new int[] {0, 1}) {
      Twins.looks("25: without any", seen(1, 0, 11), of -> of.tells(what), -1);
      Twins.looks("25: without a journal", Twins::without, of -> of.tells(what), -1);
    }
    Twins.looks("25: one alone", Twins.told(Twins.SMALL), of -> of.tells(0), 0);
    Twins.looks("25: one alone", Twins.told(Twins.SMALL), of -> of.tells(1), 1);
  }
}
