/** Promises 26 to 30, 33 to 35: records appended, waiters, ticks, the seed, flips, what is undone. */
public final class ActsTest {
  private static final String BASE = "journal 2 blocks 2 bytes 16;";

  public static void main(String[] args) {
    appending();
    waiting();
    ticking();
    closing();
    taking();
    drawing();
    snapping();
    flipping();
    undoing();
    undoneActs();
    undoneWhole();
    ages();
    seeding();
    Trial.close();
  }

  private static void appending() {
    Trial t = new Trial("26 append without a journal");
    t.due("append", t.of.append(0, 0, 0), -1);
    t.due("status(2)", t.of.status(2), 1);

    t = Trial.told("26 append", BASE + "closes records=99;");
    t.due("append", t.of.append(0, 0, 0), 0);
    t.due("append", t.of.append(15, 999, 16), 1);
    t.due("no such key", t.of.append(16, 0, 0), -1);
    t.due("no such key", t.of.append(-1, 0, 0), -1);
    t.due("no such value", t.of.append(0, 1000, 0), -1);
    t.due("no such value", t.of.append(0, -1, 0), -1);
    t.due("no such size", t.of.append(0, 0, -1), -1);
    t.due("no room in a segment", t.of.append(0, 0, 17), -1);
    t.due("no room in a segment", t.of.append(0, 0, 40), -1);
    t.due("status(2)", t.of.status(2), 7);
    t.due("has(13)", t.of.has(13), 2);
    for (int number = 2; number < 16; number++) {
      t.due("append", t.of.append(1, 1, 0), number);
    }
    t.due("a 17th that waits", t.of.append(1, 1, 0), -1);
    t.due("status(2)", t.of.status(2), 8);
    t.due("has(3)", t.of.has(3), 16);
    t.due("has(5)", t.of.has(5), 16);

    t = Trial.told("26 the greatest size", "journal 2 blocks 4 bytes 32;");
    t.due("append", t.of.append(0, 0, 40), 0);
    t.due("no such size", t.of.append(0, 0, 41), -1);
  }

  private static void waiting() {
    Trial t = Trial.told("27 waits", BASE + "closes tick=0;takes 2;put 1 1 size 0;put 1 2 size 0;");
    t.due("waits(0, 0)", t.of.waits(0, 0), true);
    t.due("waits(0, 1), he waits already", t.of.waits(0, 1), false);
    t.due("waits(8, 0)", t.of.waits(8, 0), false);
    t.due("waits(-1, 0)", t.of.waits(-1, 0), false);
    t.due("waits(1, 2)", t.of.waits(1, 2), false);
    t.due("waits(1, -1)", t.of.waits(1, -1), false);
    t.due("status(2)", t.of.status(2), 5);
    t.of.ticks(1);
    t.due("waits(7, 0), on its way", t.of.waits(7, 0), true);
    t.due("ticks(2)", t.of.ticks(2), 2);
    t.due("waits(0, 1), acknowledged", t.of.waits(0, 1), false);
    t.of.append(2, 2, 0);
    t.due("waits(0, 2), anew", t.of.waits(0, 2), true);
    t.due("has(9)", t.of.has(9), 1);
  }

  private static void ticking() {
    Trial t = Trial.told("28 ticks", BASE + "closes all;takes 1;put 1 1 size 0;");
    t.due("ticks(0)", t.of.ticks(0), -1);
    t.due("ticks(-1)", t.of.ticks(-1), -1);
    t.due("ticks(101)", t.of.ticks(101), -1);
    t.due("status(3)", t.of.status(3), 3);
    t.of.waits(3, 0);
    t.of.waits(4, 0);
    t.due("ticks(100)", t.of.ticks(100), 2);
    t.due("has(2)", t.of.has(2), 100);
    for (int i = 0; i < 8; i++) {
      t.of.ticks(100);
    }
    t.due("ticks(100) to 1000", t.of.ticks(100), -1);
    t.due("ticks(99)", t.of.ticks(99), 0);
    t.due("has(2)", t.of.has(2), 999);
    t.due("ticks(1)", t.of.ticks(1), -1);
  }

  /** Whether a group closes by a test, where two records wait, appended at ticks 1 and 2, at tick 4, with a waiter. */
  private static void closesBy(String test, boolean closes) {
    Trial t = Trial.told("28 closes " + test, BASE + "closes tick=4 and [" + test + "];");
    t.of.ticks(1);
    t.of.append(1, 1, 5);
    t.of.ticks(1);
    t.of.append(2, 2, 6);
    t.of.waits(0, 1);
    t.of.ticks(2);
    t.due("has(5)", t.of.has(5), 2);
    t.of.ticks(1);
    t.due("has(5) then", t.of.has(5), closes ? 0 : 2);
  }

  private static void closing() {
    closesBy("all", true);
    closesBy("not all", false);
    closesBy("records=2", true);
    closesBy("records<2", false);
    closesBy("records>1", true);
    closesBy("payload=17", true);
    closesBy("age=3", true);
    closesBy("waiters=1", true);
    closesBy("tick=4", true);
    closesBy("1>2 or 2>1 and 1=1", true);
    closesBy("[1=1 or 1=1] and 1>2", false);
    closesBy("1=1 or 1=1 and 1>2", true);
    closesBy("not 1=1 and 1=2", false);
    closesBy("not [1=1 and 1=2]", true);
    closesBy("not not 1=1", true);
    closesBy("0-7/2*2=0-6", true);
    closesBy("(0-7)/2=0-4", true);
    closesBy("1<2 and 1=1 and 2>1", true);
    closesBy("7/0=0", true);
    closesBy("10-3-2=5", true);
    closesBy("100/10/5=2", true);
    closesBy("2+3*4=14", true);
    closesBy("min(3,2)+max(3,2)*10=32", true);
    closesBy("9999*9999=9999*9998", true);
    closesBy("9999*9999-1=999*1001", true);
    closesBy("(0-9999)*9999=0-1000*1000", true);
    closesBy("9999*9999+5-5+5=9999*9999", true);
    closesBy("1000*1000>9999*100", true);
  }

  private static void takesBy(String sum, int ticks) {
    Trial t = Trial.told("28 takes " + sum, BASE + "closes tick=3;takes " + sum + ";put 1 1 size 5;put 2 2 size 6;");
    t.of.ticks(4);
    t.due("has(7)", t.of.has(7), ticks);
    t.of.ticks(ticks - 1 > 0 ? ticks - 1 : 1);
    t.due("has(4)", t.of.has(4), ticks > 1 ? 0 : 2);
    t.of.ticks(1);
    t.due("has(4)", t.of.has(4), 2);
  }

  private static void taking() {
    takesBy("records", 2);
    takesBy("payload", 17);
    takesBy("tick", 3);
    takesBy("0-1", 1);
    takesBy("0", 1);
    takesBy("99", 99);
    takesBy("100", 99);
    takesBy("1+payload/16", 2);
  }

  private static void drawing() {
    String text = "journal 3 blocks 2 bytes 20;closes all;takes 1;noise 40;";
    Trial t = Trial.told("29 chance", text);
    t.due("chance(0)", t.of.chance(0), -1);
    t.due("chance(101)", t.of.chance(101), -1);
    t.due("status(3)", t.of.status(3), 2);
    long x = 1;
    int[] wanted = new int[120];
    int flips = 0;
    int[] now = new int[120];
    for (int i = 0; i < 120; i++) {
      now[i] = t.of.octetOf(i / 40, i % 40);
    }
    for (int tick = 0; tick < 50; tick++) {
      x = next(x);
      if (x / 64 % 100 < 40) {
        x = next(x);
        int segment = (int) (x / 64 % 3);
        x = next(x);
        int at = (int) (x / 64 % 40);
        now[segment * 40 + at] = 255 - now[segment * 40 + at];
        wanted[segment * 40 + at] ^= 1;
        flips++;
      }
    }
    t.due("chance(50)", t.of.chance(50), flips);
    t.due("has(2)", t.of.has(2), 50);
    int scars = 0;
    for (int i = 0; i < 120; i++) {
      t.octets(i / 40, i % 40, now[i]);
      scars += wanted[i];
    }
    t.due("has(10)", t.of.has(10), scars);
    t.due("has(13), one act", t.of.has(13), 1);
    t.due("undo()", t.of.undo(), true);
    t.due("has(10)", t.of.has(10), 0);
    x = next(x);
    t.due("the seed stays: chance(1)", t.of.chance(1), x / 64 % 100 < 40 ? 1 : 0);

    t = Trial.told("29 without noise", BASE + "closes all;takes 1;put 1 1 size 0;");
    t.of.waits(0, 0);
    t.due("chance(100)", t.of.chance(100), 0);
    t.due("has(11)", t.of.has(11), 1);
    t.due("value(1)", t.of.value(1), 1);

    t = Trial.told("29 closes by its test", BASE + "closes age>1;takes 1;put 1 1 size 0;");
    t.of.chance(2);
    t.due("has(5)", t.of.has(5), 1);
    t.of.chance(1);
    t.due("has(5)", t.of.has(5), 0);

    // a draw that is just the noise flips nothing
    int seed = 0;
    while (next(seed) / 64 % 100 != 0) {
      seed++;
    }
    t = Trial.told("29 a draw of 0 without noise", BASE);
    t.of.seed(seed);
    t.due("chance(1)", t.of.chance(1), 0);
    while (next(seed) / 64 % 100 != 40) {
      seed++;
    }
    t = Trial.told("29 a draw of 40", text);
    t.of.seed(seed);
    t.due("chance(1)", t.of.chance(1), 0);
    while (next(seed) / 64 % 100 != 39) {
      seed++;
    }
    t.of.seed(seed);
    t.due("chance(1)", t.of.chance(1), 1);

    // the flips ahead of a tick are written over by what arrives in it, and are scars no more
    t = Trial.told("29 a flip of what is on its way", BASE + "closes all;takes 1;put 1 1 size 16;put 1 1 size 16;");
    t.of.ticks(1);
    t.of.flip(0, 9);
    t.of.flip(1, 9);
    t.of.flip(0, 0);
    t.due("has(10)", t.of.has(10), 3);
    t.of.ticks(1);
    t.due("has(10)", t.of.has(10), 1);
    t.due("octetOf(0, 9)", t.of.octetOf(0, 9), 1);
  }

  private static long next(long x) {
    return (1103515245L * x + 12345L) % (1L << 31);
  }

  private static void snapping() {
    Trial t = new Trial("30 snap without a journal");
    t.due("snap()", t.of.snap(), -1);
    t.due("status(4)", t.of.status(4), 1);
    t = Trial.told("30 snap", BASE + "closes all;takes 1;put 1 1 size 0;");
    t.due("snap(), it has that already", t.of.snap(), -1);
    t.of.ticks(2);
    t.due("snap()", t.of.snap(), 1);
    t.due("has(8)", t.of.has(8), 1);
    t.due("snap(), it has that already", t.of.snap(), -1);
    t.due("status(4)", t.of.status(4), 2);
    t.of.append(1, 2, 0);
    t.of.append(1, 3, 0);
    t.of.ticks(1);
    t.due("snap(), two being on their way", t.of.snap(), -1);
    t.of.ticks(1);
    t.due("snap()", t.of.snap(), 3);
    t.due("status(4)", t.of.status(4), 3);
  }

  private static void flipping() {
    Trial t = new Trial("33 flip without a journal");
    t.due("flip(0, 0)", t.of.flip(0, 0), -1);
    t = Trial.told("33 flip", BASE);
    t.due("flip(1, 31)", t.of.flip(1, 31), 255);
    t.due("flip(0, 4)", t.of.flip(0, 4), 255 - 74);
    t.due("octetOf(0, 4)", t.of.octetOf(0, 4), 255 - 74);
    t.due("has(10)", t.of.has(10), 2);
    t.due("flip(0, 4)", t.of.flip(0, 4), 74);
    t.due("has(10)", t.of.has(10), 1);
    t.due("flip(2, 0)", t.of.flip(2, 0), -1);
    t.due("flip(-1, 0)", t.of.flip(-1, 0), -1);
    t.due("flip(0, 32)", t.of.flip(0, 32), -1);
    t.due("flip(0, -1)", t.of.flip(0, -1), -1);
    t.due("status(4)", t.of.status(4), 4);
  }

  private static void undoing() {
    Trial t = new Trial("34 undo");
    t.due("undo(), nothing done", t.of.undo(), false);
    t.due("status(5)", t.of.status(5), 1);
    t = Trial.told("34 undo", BASE + "closes all;takes 1;put 1 1 size 0;");
    t.due("undo(), nothing done", t.of.undo(), false);
    for (int i = 0; i < 23; i++) {
      t.of.flip(1, i);
      t.due("has(13)", t.of.has(13), Math.min(20, i + 1));
    }
    for (int i = 0; i < 20; i++) {
      t.due("undo()", t.of.undo(), true);
      t.due("has(10)", t.of.has(10), 22 - i);
    }
    t.due("has(13)", t.of.has(13), 0);
    t.due("undo(), beyond the last 20", t.of.undo(), false);
    t.due("status(5)", t.of.status(5), 2);
    t.of.flip(1, 30);
    t.of.flip(1, 31);
    t.due("undo()", t.of.undo(), true);
    t.octets(1, 30, 255, 0);
  }

  /** Each kind of act, undone to the last answer; refused ones are none. */
  private static void undoneActs() {
    Trial t = Trial.told("34 each act", BASE + "noise 100;closes all;takes 1;put 1 1 size 0;");
    int[] before = look(t);
    t.of.append(2, 2, 2);
    int[] appended = look(t);
    t.of.waits(5, 0);
    t.of.ticks(2);
    int[] ticked = look(t);
    t.of.snap();
    int[] snapped = look(t);
    t.of.snap();
    t.of.append(99, 0, 0);
    t.of.append(3, 3, 3);
    t.of.chance(1);
    t.of.flip(0, 0);
    t.of.crash(3);
    int[] crashed = look(t);
    t.due("has(14)", t.of.has(14), 1);
    t.of.giveUp();
    t.due("place(2), serial 2 having been lost", t.of.place(2), 3);
    t.due("has(13)", t.of.has(13), 9);
    int[][] steps = {crashed, null, null, null, snapped, ticked, null, appended, before};
    for (int[] step : steps) {
      t.due("undo()", t.of.undo(), true);
      if (step != null) {
        same(t, step);
      }
    }
    t.due("undo()", t.of.undo(), false);
  }

  /** What is on its way, waits, is kept or counted as old comes back as it was. */
  private static void undoneWhole() {
    Trial t = Trial.told("34 what is on its way", "journal 3 blocks 3 bytes 32;closes age>0 or records>1;takes 2;"
        + "put 1 10 size 3;put 2 20 size 1;");
    t.of.waits(6, 1);
    t.of.waits(2, 0);
    t.of.ticks(1);
    t.of.append(3, 30, 7);
    int[] way = look(t);
    t.due("waiting(0, 3)", t.of.waiting(0, 3), 7);
    t.of.ticks(5);
    t.of.append(4, 40, 9);
    t.of.append(5, 50, 9);
    t.of.waits(7, 4);
    t.of.waits(1, 3);
    t.of.ticks(3);
    int[] later = look(t);
    t.due("kept(2, 1)", t.of.kept(2, 1), 1);
    t.due("kept(3, 1)", t.of.kept(3, 1), 7);
    for (int i = 0; i < 6; i++) {
      t.due("undo()", t.of.undo(), true);
    }
    same(t, way);
    for (int what = 0; what < 4; what++) {
      t.due("waiting(0, " + what + ")", t.of.waiting(0, what), new int[] {2, 3, 30, 7}[what]);
    }
    t.due("has(11)", t.of.has(11), 0);
    t.of.ticks(2);
    t.due("kept(0, 1)", t.of.kept(0, 1), 2);
    t.due("kept(1, 1)", t.of.kept(1, 1), 6);
    t.due("kept(1, 0)", t.of.kept(1, 0), 2);
    t.due("value(1)", t.of.value(1), 10);
    t.due("value(2)", t.of.value(2), 20);
    t.due("frames", t.of.segment(0, 3), 2);
    t.due("has(6), the one of age 1 following", t.of.has(6), 18);
    t.of.ticks(3);
    t.of.append(4, 40, 9);
    t.of.append(5, 50, 9);
    t.of.waits(7, 4);
    t.of.waits(1, 3);
    t.of.ticks(3);
    same(t, later);
  }

  private static void same(Trial t, int[] wanted) {
    int[] found = look(t);
    for (int i = 0; i < found.length; i++) {
      if (i != 13) {
        t.due("cell " + i + " of what is seen", found[i], wanted[i]);
      }
    }
  }

  /** Those that wait behind a group grow older by themselves. */
  private static void ages() {
    Trial t = Trial.told("28 age behind a group", BASE + "closes tick=0 or age>2;takes 2;put 1 1 size 0;put 1 1 size 0;");
    t.of.ticks(2);
    t.of.append(1, 2, 0);
    t.of.ticks(3);
    t.due("has(5), of age 2 at tick 4", t.of.has(5), 1);
    t.of.ticks(1);
    t.due("has(5), of age 3 at tick 5", t.of.has(5), 0);

    t = Trial.told("34 age undone", BASE + "closes age>3;takes 1;put 1 1 size 0;");
    t.of.ticks(4);
    t.due("has(5), of age 3 at tick 3", t.of.has(5), 1);
    t.of.ticks(2);
    t.of.append(2, 2, 0);
    t.of.undo();
    t.of.undo();
    t.due("has(5)", t.of.has(5), 1);
    t.of.ticks(1);
    t.due("has(5), of age 4 at tick 4", t.of.has(5), 0);
  }

  private static int[] look(Trial t) {
    int[] found = new int[15 + 3 + 16 + 8 + 2 + 3];
    int at = 0;
    for (int i = 0; i < 15; i++) {
      found[at++] = t.of.has(i);
    }
    for (int i = 0; i < 3; i++) {
      found[at++] = t.of.place(i);
    }
    for (int i = 0; i < 16; i++) {
      found[at++] = t.of.value(i);
    }
    for (int i = 0; i < 8; i++) {
      found[at++] = t.of.waiter(i);
    }
    // the last byte of an image tells whether any of its bytes is another one
    found[at++] = t.of.image();
    found[at++] = t.of.octet(found[at - 2] - 1);
    found[at++] = t.of.kept(0, 1);
    found[at++] = t.of.recovers(0, 4);
    found[at++] = t.of.segment(1, 2);
    return found;
  }

  private static void seeding() {
    Trial t = Trial.told("35 seed", BASE + "noise 50;");
    t.due("seed(-1)", t.of.seed(-1), false);
    t.due("seed(MIN)", t.of.seed(Integer.MIN_VALUE), false);
    t.due("status(6)", t.of.status(6), 2);
    t.due("seed(0)", t.of.seed(0), true);
    int byZero = t.of.chance(20);
    t.due("seed(MAX)", t.of.seed(Integer.MAX_VALUE), true);
    long x = Integer.MAX_VALUE;
    int flips = 0;
    for (int i = 0; i < 20; i++) {
      x = next(x);
      if (x / 64 % 100 < 50) {
        x = next(next(x));
        flips++;
      }
    }
    t.due("chance(20)", t.of.chance(20), flips);
    t.of.seed(0);
    t.due("chance(20), by the same seed", t.of.chance(20), byZero);
    // a new journal leaves the seed as it is
    t.of.seed(77);
    t.tape(BASE + "noise 100;");
    t.of.journal();
    t.of.chance(1);
    long second = next(next(77));
    long third = next(second);
    t.due("the byte drawn", t.of.octetOf((int) (second / 64 % 2), (int) (third / 64 % 32)) > 127, true);
  }
}
