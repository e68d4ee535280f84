/** Promises 16 to 20: ticks ahead, rules, room. */
public final class AheadTest {
  private static final String BASE = "journal 3 blocks 2 bytes 16;";

  public static void main(String[] args) {
    laterAndWhen();
    lastTick();
    noDraws();
    rules();
    takesOfRule();
    rulesThatFail();
    rooms();
    Trial.close();
  }

  private static void laterAndWhen() {
    Trial t = Trial.told("16 later, 17 when", BASE + "closes records>1;takes 2;put 1 5 size 0;put 2 6 size 0;");
    int[][] wanted = {{0, 2, 0}, {0, 0, 18}, {0, 0, 18}, {2, 0, 0}};
    for (int n = 0; n < wanted.length; n++) {
      for (int what = 0; what < 3; what++) {
        t.due("later(" + n + ", " + what + ")", t.of.later(n, what), wanted[n][what]);
      }
    }
    t.due("later(100, 0)", t.of.later(100, 0), 2);
    t.due("later(101, 0)", t.of.later(101, 0), -1);
    t.due("later(-1, 0)", t.of.later(-1, 0), -1);
    t.due("later(0, 3)", t.of.later(0, 3), -1);
    t.due("later(0, -1)", t.of.later(0, -1), -1);
    t.due("when(1)", t.of.when(1), 3);
    t.due("when(2)", t.of.when(2), -1);
    t.due("when(-1)", t.of.when(-1), -1);
    t.due("has(2), nothing having passed", t.of.has(2), 0);
    t.of.ticks(3);
    t.due("when(0), now", t.of.when(0), 0);
    t.of.append(3, 7, 0);
    t.due("when(2), never", t.of.when(2), -1);
    t.due("when(1)", t.of.when(1), 0);

    t = Trial.told("17 when, 100 at most", BASE + "closes all;takes 99;put 1 5 size 0;");
    t.due("when(0)", t.of.when(0), 100);
    t.due("rule(1, 0)", t.of.rule(1, 0), 100);
    t = Trial.told("17 when, beyond 100", BASE + "closes age>0;takes 99;put 1 5 size 0;");
    t.due("when(0)", t.of.when(0), -1);
    t = Trial.told("17 takes above 99", BASE + "closes all;takes 1000;put 1 5 size 0;");
    t.due("when(0)", t.of.when(0), 100);
    t = Trial.told("17 takes below 1", BASE + "closes all;takes 0-5;put 1 5 size 0;");
    t.due("when(0)", t.of.when(0), 2);
  }

  private static void lastTick() {
    Trial t = Trial.told("16 not beyond TICK 999", BASE + "closes tick>996;takes 2;put 1 5 size 0;");
    for (int i = 0; i < 9; i++) {
      t.of.ticks(100);
    }
    t.of.ticks(95);
    t.due("has(2)", t.of.has(2), 995);
    t.due("when(0)", t.of.when(0), -1);
    t.due("later(4, 2)", t.of.later(4, 2), 7);
    t.due("later(5, 2)", t.of.later(5, 2), -1);
    t.due("rule(1, 0)", t.of.rule(1, 0), 3);
    t.due("ticks(5)", t.of.ticks(5), -1);
    t.of.ticks(2);
    t.due("rule(1, 0), too late", t.of.rule(1, 0), -1);
    t.due("best(0)", t.of.best(0), -1);
    t.due("ticks(2)", t.of.ticks(2), 0);
    t.due("has(2)", t.of.has(2), 999);
    t.due("later(0, 2)", t.of.later(0, 2), 7);
    t.due("later(1, 2)", t.of.later(1, 2), -1);
    t.due("ticks(1)", t.of.ticks(1), -1);
    t.due("chance(1)", t.of.chance(1), -1);
    t.due("status(3)", t.of.status(3), 3);
  }

  private static void noDraws() {
    Trial t = Trial.told("16 without draws", BASE + "noise 100;closes all;takes 1;put 1 5 size 0;");
    t.due("when(0)", t.of.when(0), 2);
    t.due("has(10)", t.of.has(10), 0);
    t.of.seed(1);
    t.of.chance(1);
    int first = t.of.has(10);
    t.due("has(10)", first, 1);
  }

  /** Five records wait, a group takes as many ticks as it has records. */
  private static void rules() {
    Trial t = Trial.told("18 rule", "journal 4 blocks 4 bytes 32;closes records>99;takes records;" + "put 1 1 size 0;".repeat(5));
    // by 1: behind 2, 3, 4, 5, 6; by 2: 3, 3, 5, 5, 6; by 3: 4, 4, 4, 6, 6; by 4: 5 (four), 6; by 5 on: 6 (five)
    int[] last = {6, 6, 6, 6, 6, 6, 6, 6};
    int[] sums = {20, 22, 24, 26, 30, 30, 30, 30};
    for (int r = 1; r <= 8; r++) {
      t.due("rule(" + r + ", 0)", t.of.rule(r, 0), last[r - 1]);
      t.due("rule(" + r + ", 1)", t.of.rule(r, 1), sums[r - 1]);
    }
    t.due("best(0)", t.of.best(0), 1);
    t.due("best(1)", t.of.best(1), 20);
    t.due("best(2)", t.of.best(2), -1);
    t.due("best(-1)", t.of.best(-1), -1);
    t.due("rule(0, 0)", t.of.rule(0, 0), -1);
    t.due("rule(9, 0)", t.of.rule(9, 0), -1);
    t.due("rule(1, 2)", t.of.rule(1, 2), -1);
    t.due("rule(1, -1)", t.of.rule(1, -1), -1);
    t.due("when(0), by the test", t.of.when(0), -1);
  }

  private static void takesOfRule() {
    Trial t = Trial.told("18 takes of the group alone, what is on its way",
        "journal 4 blocks 4 bytes 32;closes records>1;takes 1+payload/10;put 1 1 size 9;put 1 1 size 9;");
    t.of.ticks(1);
    t.due("has(7)", t.of.has(7), 3);
    t.of.append(2, 2, 9);
    t.of.append(2, 2, 9);
    t.of.append(2, 2, 9);
    // 3 for those two; by 1: 3, 5, 7, 9; by 3: 1 + 36 / 10 = 4 behind 3
    t.due("rule(1, 0)", t.of.rule(1, 0), 9);
    t.due("rule(1, 1)", t.of.rule(1, 1), 3 + 3 + 5 + 7 + 9);
    t.due("rule(3, 1)", t.of.rule(3, 1), 3 + 3 + 7 + 7 + 7);
    t.due("rule(2, 1)", t.of.rule(2, 1), 3 + 3 + 6 + 6 + 8);
    t.due("best(0), the first of like ones", t.of.best(0), 2);
    t.due("best(1)", t.of.best(1), 26);
    t = Trial.told("18 each group as long", "journal 4 blocks 4 bytes 32;takes 9;" + "put 1 1 size 0;".repeat(8));
    t.due("rule(7, 1)", t.of.rule(7, 1), 7 * 10 + 19);
    t.due("best(0)", t.of.best(0), 8);
    t.due("best(1)", t.of.best(1), 80);
    t = Trial.told("18 nothing waits", BASE);
    t.due("rule(1, 0)", t.of.rule(1, 0), 0);
    t.due("rule(8, 1)", t.of.rule(8, 1), 0);
    t.due("best(0)", t.of.best(0), 1);
    t.due("best(1)", t.of.best(1), 0);
  }

  private static void rulesThatFail() {
    Trial t = Trial.told("18 without room", "journal 2 blocks 2 bytes 16;" + "put 1 1 size 16;".repeat(3));
    t.due("rule(1, 0)", t.of.rule(1, 0), -1);
    t.due("rule(1, 1)", t.of.rule(1, 1), -1);
    t.due("best(0)", t.of.best(0), -1);
    t.due("best(1)", t.of.best(1), -1);
    t = halted();
    t.due("HALTED: rule(1, 0)", t.of.rule(1, 0), -1);
    t.due("HALTED: best(0)", t.of.best(0), -1);
    t.due("HALTED: room(0)", t.of.room(0), -1);
    t.due("HALTED: later(1, 0)", t.of.later(1, 0), 0);
  }

  private static Trial halted() {
    Trial t = Trial.told("halted", BASE);
    t.of.flip(0, 1);
    t.of.crash(0);
    t.due("has(14)", t.of.has(14), 1);
    return t;
  }

  private static void rooms() {
    Trial t = Trial.told("20 room", BASE + "closes all;takes 9;");
    int[] wanted = {9, 9, 6, 6, 6};
    for (int size = 0; size < wanted.length; size++) {
      t.due("room(" + size + ")", t.of.room(size), wanted[size]);
    }
    t.due("room(16)", t.of.room(16), 3);
    t.due("room(17)", t.of.room(17), 0);
    t.due("room(40)", t.of.room(40), 0);
    t.due("room(41)", t.of.room(41), -1);
    t.due("room(-1)", t.of.room(-1), -1);
    t.of.append(1, 1, 16);
    t.due("room(16), nothing that waits being laid", t.of.room(16), 3);
    t.of.append(1, 1, 16);
    t.of.ticks(1);
    t.due("room(16), two being on their way", t.of.room(16), 1);
    t.of.ticks(9);
    t.due("room(0)", t.of.room(0), 3);
    t.of.snap();
    t.due("room(16), segment 0 being free", t.of.room(16), 2);
    t.due("has(2)", t.of.has(2), 10);
    t.due("place(0)", t.of.place(0), 1);
  }
}
