/** The edges of promises 6 to 15, a test a sentence: has, segment, frame, octetOf, place, value, soon, who and what waits. */
public final class EdgesSightTest {
  public static void main(String[] args) {
    hasOfOthers();
    hasAtItsEnds();
    segmentOfNone();
    segmentOfOthers();
    headThatIsRight();
    framesBehindOneAnother();
    frameOfNone();
    frameOfOthers();
    octetOfNone();
    placeOfOthers();
    placeWithoutGround();
    placeOfOpened();
    valueOfNone();
    soonOfNone();
    soonBeforeItIsWritten();
    waitingOfNone();
    waitingOfOthers();
    waiterOfNone();
    keptOfNone();
    keptTheLast40();
    Trial.close();
  }

  /** 6: NONE for others. */
  private static void hasOfOthers() {
    for (int what : new int[] {Integer.MIN_VALUE, -1, 15, 16, Integer.MAX_VALUE}) {
      Twins.looks("6: has(" + what + ")", Twins::busy, of -> of.has(what), -1);
      Twins.looks("6: has(" + what + ") without a journal", Twins::without, of -> of.has(what), -1);
    }
  }

  /** 6: How many there are, at the ends of each. */
  private static void hasAtItsEnds() {
    Trial t = new Trial("6: busy");
    Twins.busy(t.of);
    t.has(2, 32, 5, 5, 2, 1, 20, 3, 2, 2, 1, 1, 1, 10, 0, -1);
    t = new Trial("6: HALTED");
    Twins.halted(t.of);
    t.has(2, 32, 2, 1, 1, 0, 0, 0, 0, 0, 1, 0, 0, 3, 1);
    t = new Trial("6: WITHOUT GROUND");
    Twins.groundless(t.of);
    t.has(2, 32, 2, 1, 1, 0, 0, 0, 1, 0, 1, 0, 0, 4, 1);
    t.of.giveUp();
    t.has(2, 32, 2, 1, 1, 0, 0, 0, 1, 0, 0, 0, 0, 5, 0);
    t = new Trial("6: TICK 999");
    Twins.atTick(999, Twins.SMALL).on(t.of);
    t.has(2, 32, 999, 0, 0, 0, 0, 0, 0, 0, 0, 0, 0, 10, 0);
    t = Trial.told("6: the most", Twins.GREAT + "closes all;takes 99;" + "put 1 1 size 20;".repeat(16));
    for (int who = 0; who < 8; who++) {
      t.of.waits(who, 15);
    }
    t.of.ticks(1);
    for (int i = 0; i < 16; i++) {
      t.of.append(1, 100 + i, 0);
    }
    Twins.lay(t.of, new int[48]);
    t.of.see();
    // four records a segment, of 27, 27, 5 + 26 and 6 + 25 bytes, and three heads
    t.has(4, 128, 1, 32, 0, 16, 4 * 116 + 3 * 5, 99, 0, 8, 0, 0, 16, 20, 0);
    for (int k = 0; k < 16; k++) {
      t.due("waiting(" + k + ", 0), behind as many on their way", t.of.waiting(k, 0), 16 + k);
      t.due("waiting(" + k + ", 2)", t.of.waiting(k, 2), 100 + k);
    }
    t.due("soon(1)", t.of.soon(1), 115);
    t.of.ticks(98);
    t.due("has(7)", t.of.has(7), 1);
    t.of.ticks(1);
    t.due("has(7)", t.of.has(7), 0);
    t.due("has(9)", t.of.has(9), 0);
    t.due("has(11)", t.of.has(11), 8);
    t = Trial.told("6: all bytes are SCARS", Twins.SMALL);
    for (int at = 0; at < 64; at++) {
      t.of.flip(at / 32, at % 32);
      t.due("has(10)", t.of.has(10), at + 1);
    }
  }

  /** 7, 8: NONE when there is none such. */
  private static void segmentOfNone() {
    for (int segment : new int[] {Integer.MIN_VALUE, -1, 2, 3, Integer.MAX_VALUE}) {
      for (int what = 0; what < 4; what++) {
        int asked = what;
        Twins.looks("7: segment(" + segment + ", " + what + ")", Twins::busy, of -> of.segment(segment, asked), -1);
      }
    }
    for (int what = 0; what < 4; what++) {
      int asked = what;
      Twins.looks("7: without a journal", Twins::without, of -> of.segment(0, asked), -1);
    }
    Trial t = Trial.told("7: the last of four", Twins.GREAT);
    t.due("segment(3, 2)", t.of.segment(3, 2), 1);
    t.due("segment(4, 2)", t.of.segment(4, 2), -1);
    t.due("segment(0, 2)", t.of.segment(0, 2), 0);
  }

  /** 7: NONE for others. */
  private static void segmentOfOthers() {
    for (int what : new int[] {Integer.MIN_VALUE, -1, 4, 5, Integer.MAX_VALUE}) {
      Twins.looks("7: segment(0, " + what + ")", Twins::busy, of -> of.segment(0, what), -1);
      Twins.looks("7: segment(1, " + what + ")", Twins::busy, of -> of.segment(1, what), -1);
    }
  }

  /** 7: NONE each without a right one; 0 without a right HEAD. */
  private static void headThatIsRight() {
    int[] serials = {1, 3, 255, 256, 32768, 65535};
    int[] firsts = {0, 65535, 256, 255, 1, 32768};
    for (int i = 0; i < serials.length; i++) {
      Trial t = headed("7: serial " + serials[i], serials[i], firsts[i]);
      t.due("serial", t.of.segment(1, 0), serials[i]);
      t.due("first", t.of.segment(1, 1), firsts[i]);
      t.due("frames", t.of.segment(1, 3), 1);
      for (int at = 0; at < 5; at++) {
        t.of.flip(1, at);
        t.due("serial, byte " + at + " being wrong", t.of.segment(1, 0), -1);
        t.due("first", t.of.segment(1, 1), -1);
        t.due("frames", t.of.segment(1, 3), 0);
        t.due("frame(1, 0, 0)", t.of.frame(1, 0, 0), -1);
        t.of.flip(1, at);
      }
    }
    Trial t = headed("7: 2 and 253 have the same CHECK", 2, 5);
    t.of.flip(1, 1);
    t.due("serial", t.of.segment(1, 0), 253);
    t.due("first", t.of.segment(1, 1), 5);
    t.due("frames, being of another serial", t.of.segment(1, 3), 0);
    t = headed("7: serial 0, its CHECK being right", 0, 1);
    t.due("serial", t.of.segment(1, 0), -1);
    t.due("first", t.of.segment(1, 1), -1);
    t.due("frames", t.of.segment(1, 3), 0);
  }

  /** Segment 1 has a head and a frame behind it. */
  private static Trial headed(String name, int serial, int first) {
    Trial t = Trial.told(name, Twins.SMALL);
    int[] image = t.image();
    Trial.head(image, 32, serial, first);
    Trial.frame(image, 37, serial, 3, 7);
    t.tapeImage(image);
    t.due("on()", t.of.on(), true);
    return t;
  }

  /** Frames at 5 and 16 of segment 0, each of 3 bytes of payload; what lies behind the second is no frame. */
  private static void framed(GroupJournal of) {
    Twins.tell(of, Twins.SMALL + "closes all;takes 1;put 1 10 size 0;put 2 20 size 0;");
    of.ticks(2);
  }

  /** 7, 8: how many right FRAMES there are behind it one after the other. */
  private static void framesBehindOneAnother() {
    Trial t = new Trial("7: one after the other");
    framed(t.of);
    t.due("frames", t.of.segment(0, 3), 2);
    t.of.flip(0, 22);
    t.due("frames, the second being wrong", t.of.segment(0, 3), 1);
    t.of.flip(0, 22);
    t.of.flip(0, 11);
    t.due("frames, the first being wrong", t.of.segment(0, 3), 0);
    t.due("frame(0, 0, 0)", t.of.frame(0, 0, 0), -1);
    // three blocks of 16: 7, 12 and 12 bytes of payload, to the last byte
    t = Trial.told("8: KIND 2, 3, 4 to the end", "journal 2 blocks 3 bytes 16;closes all;takes 1;put 1 1 size 28;");
    t.of.ticks(2);
    t.due("frames", t.of.segment(0, 3), 3);
    int[][] wanted = {{5, 2, 7}, {16, 3, 12}, {32, 4, 12}, {-1, -1, -1}};
    for (int k = 0; k < 4; k++) {
      for (int what = 0; what < 3; what++) {
        t.due("frame(0, " + k + ", " + what + ")", t.of.frame(0, k, what), wanted[k][what]);
      }
    }
    t = Trial.told("8: as many as there can be", "journal 2 blocks 4 bytes 32;closes all;takes 1;" + "put 1 1 size 0;".repeat(16));
    t.of.ticks(2);
    // in each block but the last three whole ones of 7 bytes, 6 of a fourth, of which 5 are in the next block
    t.due("frames", t.of.segment(0, 3), 18);
    t.due("frame(0, 0, 0)", t.of.frame(0, 0, 0), 5);
    t.due("frame(0, 3, 2)", t.of.frame(0, 3, 2), 2);
    t.due("frame(0, 4, 2)", t.of.frame(0, 4, 2), 1);
    t.due("frame(0, 17, 0)", t.of.frame(0, 17, 0), 115);
    t.due("frame(0, 18, 0)", t.of.frame(0, 18, 0), -1);
  }

  /** 8: NONE when there is none such. */
  private static void frameOfNone() {
    for (int k : new int[] {Integer.MIN_VALUE, -1, 2, 3, Integer.MAX_VALUE}) {
      for (int what = 0; what < 3; what++) {
        int asked = what;
        Twins.looks("8: frame(0, " + k + ", " + what + ")", EdgesSightTest::framed, of -> of.frame(0, k, asked), -1);
      }
    }
    for (int segment : new int[] {Integer.MIN_VALUE, -1, 1, 2, Integer.MAX_VALUE}) {
      Twins.looks("8: frame(" + segment + ", 0, 0)", EdgesSightTest::framed, of -> of.frame(segment, 0, 0), -1);
    }
    Twins.looks("8: frame(0, 0, 0)", EdgesSightTest::framed, of -> of.frame(0, 0, 0), 5);
    Twins.looks("8: frame(0, 1, 0)", EdgesSightTest::framed, of -> of.frame(0, 1, 0), 16);
    Twins.looks("8: without a journal", Twins::without, of -> of.frame(0, 0, 0), -1);
  }

  /** 8: NONE for others. */
  private static void frameOfOthers() {
    for (int what : new int[] {Integer.MIN_VALUE, -1, 3, 4, Integer.MAX_VALUE}) {
      Twins.looks("8: frame(0, 0, " + what + ")", EdgesSightTest::framed, of -> of.frame(0, 0, what), -1);
    }
  }

  /** 9: NONE when there is none such. */
  private static void octetOfNone() {
    for (int wrong : new int[] {Integer.MIN_VALUE, -1, 32, 33, Integer.MAX_VALUE}) {
      Twins.looks("9: octetOf(0, " + wrong + ")", Twins::busy, of -> of.octetOf(0, wrong), -1);
      Twins.looks("9: octetOf(1, " + wrong + ")", Twins::busy, of -> of.octetOf(1, wrong), -1);
    }
    for (int wrong : new int[] {Integer.MIN_VALUE, -1, 2, 3, Integer.MAX_VALUE}) {
      Twins.looks("9: octetOf(" + wrong + ", 0)", Twins::busy, of -> of.octetOf(wrong, 0), -1);
    }
    Twins.looks("9: without a journal", Twins::without, of -> of.octetOf(0, 0), -1);
    Trial t = Trial.told("9: the first and the last", Twins.GREAT);
    t.due("octetOf(0, 0)", t.of.octetOf(0, 0), 0);
    t.of.flip(3, 127);
    t.due("octetOf(3, 127)", t.of.octetOf(3, 127), 255);
    t.due("octetOf(3, 128)", t.of.octetOf(3, 128), -1);
    t.due("octetOf(4, 0)", t.of.octetOf(4, 0), -1);
    t = new Trial("9: on the disk, not what is on its way");
    Twins.busy(t.of);
    t.due("octetOf(0, 24)", t.of.octetOf(0, 24), 0);
    t.due("octetOf(1, 1)", t.of.octetOf(1, 1), 0);
  }

  /** 10: NONE without a journal, or for others. */
  private static void placeOfOthers() {
    for (int what : new int[] {Integer.MIN_VALUE, -1, 3, 4, Integer.MAX_VALUE}) {
      Twins.looks("10: place(" + what + ")", Twins::busy, of -> of.place(what), -1);
      Twins.looks("10: place(" + what + ")", Twins::halted, of -> of.place(what), -1);
    }
    for (int what = 0; what < 3; what++) {
      int asked = what;
      Twins.looks("10: without a journal", Twins::without, of -> of.place(asked), -1);
    }
  }

  /** 10: 0 WITHOUT GROUND, till that is GIVEN UP. */
  private static void placeWithoutGround() {
    Trial t = new Trial("10: WITHOUT GROUND");
    Twins.groundless(t.of);
    place(t, 0, 5, 0);
    t.of.ticks(3);
    place(t, 0, 5, 0);
    t.of.giveUp();
    place(t, 0, 5, 2);
    t.of.undo();
    place(t, 0, 5, 0);
    t = new Trial("10: HALTED with a ground");
    Twins.halted(t.of);
    place(t, 0, 12, 1);
    t.of.giveUp();
    place(t, 0, 12, 1);
  }

  private static void place(Trial t, int segment, int at, int serial) {
    t.due("place(0)", t.of.place(0), segment);
    t.due("place(1)", t.of.place(1), at);
    t.due("place(2)", t.of.place(2), serial);
  }

  /** 10: the serial by which that was OPENED, or that its HEAD told when it was RECOVERED. */
  private static void placeOfOpened() {
    Trial t = new Trial("10: by which it was OPENED");
    Twins.busy(t.of);
    place(t, 1, 13, 2);
    t.due("its HEAD is on its way", t.of.segment(1, 0), -1);
    t.of.crash(0);
    place(t, 0, 23, 1);
    t.of.flip(0, 1);
    place(t, 0, 23, 1);
    t = headed("10: that its HEAD told", 777, 0);
    place(t, 1, 12, 777);
    t.of.flip(1, 1);
    place(t, 1, 12, 777);
    t = Trial.told("10: at the end of a segment", Twins.SMALL + "closes all;put 1 1 size 16;");
    t.of.ticks(1);
    place(t, 0, 32, 1);
  }

  /** 11: NONE when there is none such. */
  private static void valueOfNone() {
    Twins.Setup two = of -> {
      Twins.tell(of, Twins.SMALL + "closes all;takes 1;put 0 0 size 0;put 15 999 size 0;");
      of.ticks(2);
    };
    Twins.looks("11: value(0)", two, of -> of.value(0), 0);
    Twins.looks("11: value(15)", two, of -> of.value(15), 999);
    Twins.looks("11: value(1)", two, of -> of.value(1), -1);
    Twins.looks("11: value(14)", two, of -> of.value(14), -1);
    for (int key : new int[] {Integer.MIN_VALUE, -1, 16, 17, Integer.MAX_VALUE}) {
      Twins.looks("11: value(" + key + ")", two, of -> of.value(key), -1);
      Twins.looks("12: soon(" + key + ")", two, of -> of.soon(key), -1);
    }
    Twins.looks("11: without a journal", Twins::without, of -> of.value(0), -1);
    Twins.looks("11: on its way", Twins::busy, of -> of.value(3), -1);
    Twins.looks("11: acknowledged", Twins::busy, of -> of.value(2), 20);
  }

  /** 12: NONE when there is none such. */
  private static void soonOfNone() {
    Twins.looks("12: without a journal", Twins::without, of -> of.soon(0), -1);
    Twins.looks("12: soon(6)", Twins::busy, of -> of.soon(6), -1);
    Twins.Setup two = Twins.told(Twins.SMALL + "put 0 0 size 0;put 15 999 size 0;");
    Twins.looks("12: soon(0)", two, of -> of.soon(0), 0);
    Twins.looks("12: soon(15)", two, of -> of.soon(15), 999);
    Twins.looks("12: soon(14)", two, of -> of.soon(14), -1);
  }

  /** 12: what is on its way and waits being written already. */
  private static void soonBeforeItIsWritten() {
    Trial t = new Trial("12: in the table, on its way, waiting");
    Twins.busy(t.of);
    int[] wanted = {-1, 10, 20, 30, 40, 50, -1};
    for (int key = 0; key < wanted.length; key++) {
      t.due("soon(" + key + ")", t.of.soon(key), wanted[key]);
    }
    t.of.append(1, 11, 0);
    t.due("soon(1), waiting", t.of.soon(1), 11);
    t.of.append(3, 31, 0);
    t.due("soon(3), waiting behind what is on its way", t.of.soon(3), 31);
    t.of.append(3, 32, 0);
    t.due("soon(3), the last that waits", t.of.soon(3), 32);
    t.of.crash(20);
    t.due("soon(3), what waited being gone", t.of.soon(3), 30);
    t.due("soon(5)", t.of.soon(5), -1);
  }

  /** 13: NONE when there is none such. */
  private static void waitingOfNone() {
    Twins.Setup full = Twins.told(Twins.SMALL + "put 1 1 size 0;".repeat(15) + "put 7 8 size 9;");
    Twins.looks("13: waiting(0, 0)", full, of -> of.waiting(0, 0), 0);
    Twins.looks("13: waiting(15, 0)", full, of -> of.waiting(15, 0), 15);
    Twins.looks("13: waiting(15, 1)", full, of -> of.waiting(15, 1), 7);
    Twins.looks("13: waiting(15, 2)", full, of -> of.waiting(15, 2), 8);
    Twins.looks("13: waiting(15, 3)", full, of -> of.waiting(15, 3), 9);
    for (int k : new int[] {Integer.MIN_VALUE, -1, 16, 17, Integer.MAX_VALUE}) {
      Twins.looks("13: waiting(" + k + ", 0)", full, of -> of.waiting(k, 0), -1);
    }
    Twins.looks("13: the only one", Twins::busy, of -> of.waiting(0, 0), 4);
    for (int k : new int[] {-1, 1, 2}) {
      Twins.looks("13: what is on its way waits no more", Twins::busy, of -> of.waiting(k, 0), -1);
    }
    Twins.looks("13: without a journal", Twins::without, of -> of.waiting(0, 0), -1);
  }

  /** 13: NONE for others. */
  private static void waitingOfOthers() {
    for (int what : new int[] {Integer.MIN_VALUE, -1, 4, 5, Integer.MAX_VALUE}) {
      Twins.looks("13: waiting(0, " + what + ")", Twins::busy, of -> of.waiting(0, what), -1);
    }
  }

  /** 14: For which RECORD one (0 .. 7) waits; NONE when he does not, or there is none such. */
  private static void waiterOfNone() {
    Twins.Setup ends = of -> {
      Twins.busy(of);
      of.waits(0, 2);
      of.waits(7, 4);
    };
    int[] wanted = {2, 3, 4, -1, -1, -1, -1, 4};
    for (int who = 0; who < 8; who++) {
      int asked = who;
      Twins.looks("14: waiter(" + who + ")", ends, of -> of.waiter(asked), wanted[who]);
    }
    for (int who : new int[] {Integer.MIN_VALUE, -1, 8, 9, Integer.MAX_VALUE}) {
      Twins.looks("14: waiter(" + who + ")", ends, of -> of.waiter(who), -1);
    }
    Twins.looks("14: without a journal", Twins::without, of -> of.waiter(0), -1);
    Twins.looks("14: who was released", Twins::busy, of -> of.waiter(6), -1);
  }

  /** 15: NONE when there is none such, or for others. */
  private static void keptOfNone() {
    Twins.looks("15: kept(0, 0)", Twins::busy, of -> of.kept(0, 0), 3);
    Twins.looks("15: kept(0, 1)", Twins::busy, of -> of.kept(0, 1), 6);
    Twins.looks("15: kept(0, 2)", Twins::busy, of -> of.kept(0, 2), 1);
    for (int k : new int[] {Integer.MIN_VALUE, -1, 1, 2, 39, 40, Integer.MAX_VALUE}) {
      Twins.looks("15: kept(" + k + ", 0)", Twins::busy, of -> of.kept(k, 0), -1);
    }
    for (int what : new int[] {Integer.MIN_VALUE, -1, 3, 4, Integer.MAX_VALUE}) {
      Twins.looks("15: kept(0, " + what + ")", Twins::busy, of -> of.kept(0, what), -1);
    }
    Twins.looks("15: without a journal", Twins::without, of -> of.kept(0, 0), -1);
  }

  /** II, 15: the last 40 are told, from the oldest on. */
  private static void keptTheLast40() {
    Trial t = Trial.told("15: 40 of 41", "journal 3 blocks 4 bytes 32;closes all;takes 1;");
    for (int round = 0; round < 5; round++) {
      int number = t.of.append(1, 1, 0);
      for (int who = 0; who < 8; who++) {
        t.of.waits(who, number);
      }
      t.of.ticks(2);
    }
    t.due("has(11)", t.of.has(11), 40);
    kept(t, 0, 1, 0, 0);
    kept(t, 7, 1, 7, 0);
    kept(t, 39, 9, 7, 4);
    kept(t, 40, -1, -1, -1);
    t.of.append(1, 1, 0);
    t.of.waits(3, 5);
    t.of.ticks(2);
    t.due("has(11)", t.of.has(11), 40);
    kept(t, -1, -1, -1, -1);
    kept(t, 0, 1, 1, 0);
    kept(t, 38, 9, 7, 4);
    kept(t, 39, 11, 3, 5);
    kept(t, 40, -1, -1, -1);
    t.of.crash(0);
    t.due("has(11), a crash leaving them", t.of.has(11), 40);
    kept(t, 39, 11, 3, 5);
  }

  private static void kept(Trial t, int k, int... wanted) {
    for (int what = 0; what < 3; what++) {
      t.due("kept(" + k + ", " + what + ")", t.of.kept(k, what), wanted[what]);
    }
  }
}
