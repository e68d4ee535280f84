/** Promises 6 to 15: what there is, segments, frames, THE PLACE, the table, who and what waits, what is kept. */
public final class SightTest {
  private static final String BASE = "journal 3 blocks 2 bytes 16;";

  public static void main(String[] args) {
    counts();
    segments();
    frames();
    splitRecord();
    free();
    freeWhileLaid();
    freeOfGroup();
    leftOver();
    values();
    waitingRecords();
    waiters();
    keptReleases();
    Trial.close();
  }

  private static void counts() {
    Trial t = Trial.told("6 has", "journal 4 blocks 3 bytes 17;closes records>1;takes 3;");
    t.due("has(0)", t.of.has(0), 4);
    t.due("has(1)", t.of.has(1), 51);
    t.of.append(1, 10, 0);
    t.of.append(1, 11, 0);
    t.of.ticks(2);
    t.of.append(2, 12, 0);
    t.of.waits(0, 1);
    t.of.waits(7, 2);
    t.of.flip(3, 50);
    t.of.flip(3, 50);
    t.of.flip(3, 49);
    // 7 bytes of the first one, 5 and 6 of the second, for which 5 bytes of its block were left
    t.has(4, 51, 2, 3, 0, 1, 18, 2, 0, 2, 1, 0, 0, 9, 0, -1);
    t.due("has(-1)", t.of.has(-1), -1);
    t.of.ticks(2);
    t.of.snap();
    t.has(4, 51, 4, 3, 2, 1, 0, 0, 2, 1, 1, 1, 0, 11, 0);
  }

  private static void segments() {
    Trial t = Trial.told("7 segment", BASE);
    t.due("serial", t.of.segment(0, 0), 1);
    t.due("first", t.of.segment(0, 1), 0);
    t.due("free", t.of.segment(0, 2), 0);
    t.due("frames", t.of.segment(0, 3), 0);
    t.due("serial without a head", t.of.segment(1, 0), -1);
    t.due("first without a head", t.of.segment(1, 1), -1);
    t.due("free without a head", t.of.segment(1, 2), 1);
    t.due("frames without a head", t.of.segment(1, 3), 0);
    t.due("segment(3, 2)", t.of.segment(3, 2), -1);
    t.due("segment(-1, 2)", t.of.segment(-1, 2), -1);
    t.due("segment(0, 4)", t.of.segment(0, 4), -1);
    t.due("segment(0, -1)", t.of.segment(0, -1), -1);
    t.of.flip(0, 4);
    t.due("serial, the check being wrong", t.of.segment(0, 0), -1);
    t.due("first, the check being wrong", t.of.segment(0, 1), -1);

    int[] image = t.image();
    Trial.head(image, 0, 0, 1);
    Trial.head(image, 64, 258, 772);
    t.tapeImage(image);
    t.due("on()", t.of.on(), true);
    t.due("serial 0", t.of.segment(0, 0), -1);
    t.due("serial 258", t.of.segment(2, 0), 258);
    t.due("number 772", t.of.segment(2, 1), 772);
  }

  private static void frames() {
    Trial t = Trial.told("8 frame", BASE + "closes all;takes 1;put 1 5 size 0;put 2 300 size 2;");
    t.of.ticks(2);
    t.octets(0, 5, Trial.check(7, new int[] {1, 3, 1, 1, 0, 5}, 0, 6), 1, 3, 1, 1, 0, 5);
    t.octets(0, 12, 0, 0, 0, 0);
    t.octets(0, 17, 1, 5, 1, 2, 1, 44, 44, 51, 0);
    t.due("frames", t.of.segment(0, 3), 2);
    t.due("begin", t.of.frame(0, 0, 0), 5);
    t.due("kind", t.of.frame(0, 0, 1), 1);
    t.due("length", t.of.frame(0, 0, 2), 3);
    t.due("begin", t.of.frame(0, 1, 0), 16);
    t.due("length", t.of.frame(0, 1, 2), 5);
    t.due("frame(0, 2, 0)", t.of.frame(0, 2, 0), -1);
    t.due("frame(0, -1, 0)", t.of.frame(0, -1, 0), -1);
    t.due("frame(0, 0, 3)", t.of.frame(0, 0, 3), -1);
    t.due("frame(1, 0, 0)", t.of.frame(1, 0, 0), -1);
    t.due("frame(3, 0, 0)", t.of.frame(3, 0, 0), -1);
    t.of.flip(0, 13);
    t.due("frames, whatever the bytes left over are", t.of.segment(0, 3), 2);
    t.of.flip(0, 11);
    t.due("frames behind a wrong one", t.of.segment(0, 3), 0);
    t.of.undo();
    t.of.flip(0, 4);
    t.due("frames without a right head", t.of.segment(0, 3), 0);
    t.due("octetOf(0, -1)", t.of.octetOf(0, -1), -1);
    t.due("octetOf(0, 32)", t.of.octetOf(0, 32), -1);
    t.due("octetOf(-1, 0)", t.of.octetOf(-1, 0), -1);
    t.due("octetOf(3, 0)", t.of.octetOf(3, 0), -1);
  }

  /** A record of 29 bytes over three blocks of 16: 7, 12 and 10 of them. */
  private static void splitRecord() {
    Trial t = Trial.told("8 a record over blocks", "journal 2 blocks 3 bytes 16;closes all;takes 1;put 15 999 size 26;");
    t.of.ticks(1);
    t.due("on their way", t.of.has(6), 11 + 16 + 14);
    t.due("place(1)", t.of.place(1), 46);
    t.of.ticks(1);
    t.due("frames", t.of.segment(0, 3), 3);
    int[][] wanted = {{5, 2, 7}, {16, 3, 12}, {32, 4, 10}};
    for (int k = 0; k < 3; k++) {
      for (int what = 0; what < 3; what++) {
        t.due("frame(0, " + k + ", " + what + ")", t.of.frame(0, k, what), wanted[k][what]);
      }
    }
    t.octets(0, 9, 15, 3, 231, 231, 238, 245, 252);
    t.octets(0, 20, 3, 10, 17);
  }

  private static void free() {
    Trial t = Trial.told("7 free", BASE + "closes all;takes 1;");
    t.of.append(0, 1, 16);
    t.of.ticks(2);
    t.of.append(0, 2, 16);
    t.of.ticks(1);
    t.due("place(0)", t.of.place(0), 1);
    t.due("place(2)", t.of.place(2), 2);
    t.due("a record of the snap's number lies there", t.of.segment(0, 2), 0);
    t.of.snap();
    t.due("none but below the snap's lies there", t.of.segment(0, 2), 1);
    t.due("the place is there", t.of.segment(1, 2), 0);
    t.due("nothing lies there", t.of.segment(2, 2), 1);
    t.of.ticks(1);
    t.of.append(0, 3, 16);
    t.of.ticks(2);
    t.due("the free one of least number is opened", t.of.place(0), 0);
    t.due("by serial 3", t.of.place(2), 3);
    t.due("serial", t.of.segment(0, 0), 3);
    t.due("first", t.of.segment(0, 1), 2);
    t.octets(0, 0, 0, 3, 0, 2);
    // byte 27 on, that no record of this serial has reached, stays as it was
    t.of.snap();
    t.of.append(0, 4, 0);
    t.of.ticks(2);
    t.due("place(0)", t.of.place(0), 1);
    t.due("frames", t.of.segment(1, 3), 1);
    t.octets(1, 17, 4, 12, 2);
    t.of.crash(0);
    t.octets(1, 12, 0, 0, 0, 0, 0, 0, 0);
  }

  /** A group that would need the segment in which it began finds no room, though all in that is below the snap. */
  private static void freeWhileLaid() {
    Trial t = Trial.told("7 free while a group is laid", "journal 2 blocks 2 bytes 16;closes all;takes 1;");
    t.of.append(0, 1, 16);
    t.of.ticks(2);
    t.of.snap();
    t.due("the place is there", t.of.segment(0, 2), 0);
    t.of.append(0, 2, 16);
    t.of.append(0, 3, 16);
    t.of.ticks(5);
    t.due("no room for both", t.of.has(5), 2);
    t.due("place(0)", t.of.place(0), 0);
    t.due("place(1)", t.of.place(1), 32);
    t.due("room(16)", t.of.room(16), 1);
    t.due("rule(1, 0): one after the other there is", t.of.rule(1, 0), 3);
  }

  /** The greatest of a group's records that lie in a segment counts. */
  private static void freeOfGroup() {
    Trial t = Trial.told("7 free, a group over segments", BASE + "closes all;takes 1;");
    t.of.append(0, 1, 0);
    t.of.append(0, 2, 2);
    t.of.append(0, 3, 16);
    t.of.ticks(1);
    t.due("place(0)", t.of.place(0), 1);
    t.of.undo();
    t.due("undone", t.of.segment(1, 2), 1);
    t.of.ticks(1);
    t.due("on its way", t.of.segment(0, 2), 0);
    t.of.ticks(1);
    t.due("on the disk", t.of.segment(0, 2), 0);
    t.of.append(0, 4, 0);
    t.of.undo();
    t.due("undone", t.of.segment(0, 2), 0);
    t.of.snap();
    t.due("below the snap", t.of.segment(0, 2), 1);
    t.of.undo();
    t.due("undone", t.of.segment(0, 2), 0);
  }

  /** Bytes left over behind a frame are written as 0 with the next one, not before. */
  private static void leftOver() {
    Trial t = Trial.told("9 bytes left over", BASE + "closes all;takes 1;put 1 1 size 0;");
    t.of.flip(0, 12);
    t.of.flip(0, 15);
    t.of.ticks(2);
    t.octets(0, 12, 255, 0, 0, 255);
    t.of.append(1, 2, 0);
    t.of.ticks(1);
    t.due("has(6)", t.of.has(6), 11);
    t.of.ticks(1);
    t.octets(0, 12, 0, 0, 0, 0);
    t.due("has(10)", t.of.has(10), 0);
  }

  private static void values() {
    Trial t = Trial.told("11 value, 12 soon", BASE + "closes records>1;takes 2;put 3 7 size 0;put 3 8 size 0;put 4 9 size 0;");
    t.of.ticks(1);
    t.of.append(4, 10, 1);
    t.due("value(3)", t.of.value(3), -1);
    t.due("soon(3)", t.of.soon(3), 8);
    t.due("soon(4)", t.of.soon(4), 10);
    t.due("soon(5)", t.of.soon(5), -1);
    t.of.ticks(2);
    t.due("value(3)", t.of.value(3), 8);
    t.due("value(4)", t.of.value(4), 9);
    t.due("soon(4)", t.of.soon(4), 10);
    t.due("soon(3)", t.of.soon(3), 8);
    t.due("value(-1)", t.of.value(-1), -1);
    t.due("value(16)", t.of.value(16), -1);
    t.due("soon(-1)", t.of.soon(-1), -1);
    t.due("soon(16)", t.of.soon(16), -1);
  }

  private static void waitingRecords() {
    Trial t = Trial.told("13 waiting", BASE + "closes records=2;takes 2;put 1 2 size 3;put 4 5 size 6;");
    t.of.ticks(1);
    t.of.append(7, 8, 9);
    t.of.append(10, 11, 12);
    int[] wanted = {3, 10, 11, 12, -1};
    for (int what = 0; what < wanted.length; what++) {
      t.due("waiting(1, " + what + ")", t.of.waiting(1, what), wanted[what]);
    }
    t.due("waiting(0, 0)", t.of.waiting(0, 0), 2);
    t.due("waiting(2, 0)", t.of.waiting(2, 0), -1);
    t.due("waiting(-1, 0)", t.of.waiting(-1, 0), -1);
    t.due("waiting(0, -1)", t.of.waiting(0, -1), -1);
    t.of.ticks(2);
    t.due("waiting(0, 0), all being on their way", t.of.waiting(0, 0), -1);
  }

  private static void waiters() {
    Trial t = Trial.told("14 waiter", BASE + "closes all;takes 1;put 1 2 size 3;");
    t.of.waits(7, 0);
    t.due("waiter(7)", t.of.waiter(7), 0);
    t.due("waiter(6)", t.of.waiter(6), -1);
    t.due("waiter(8)", t.of.waiter(8), -1);
    t.due("waiter(-1)", t.of.waiter(-1), -1);
    t.of.ticks(2);
    t.due("waiter(7), released", t.of.waiter(7), -1);
  }

  private static void keptReleases() {
    Trial t = Trial.told("15 kept", "journal 3 blocks 4 bytes 32;closes all;takes 1;");
    for (int round = 0; round < 6; round++) {
      int number = t.of.append(1, round, 0);
      t.of.append(2, round, 0);
      for (int who = 7; who >= 0; who--) {
        t.of.waits(who, who % 2 == 0 ? number + 1 : number);
      }
      t.due("ticks(2)", t.of.ticks(2), 8);
      t.of.snap();
    }
    t.due("has(11)", t.of.has(11), 40);
    t.of.append(3, 3, 0);
    t.of.waits(0, 12);
    t.of.waits(1, 12);
    t.due("ticks(2)", t.of.ticks(2), 2);
    t.due("the latest", t.of.kept(39, 1), 1);
    t.of.undo();
    // of 48 the first 8 are told no more: the first told is of round 1, tick 3, the record of odd waiters
    int[] order = {7, 5, 3, 1, 6, 4, 2, 0};
    for (int k = 0; k < 40; k++) {
      int round = 1 + k / 8;
      t.due("tick of " + k, t.of.kept(k, 0), 2 * round + 1);
      t.due("who of " + k, t.of.kept(k, 1), order[k % 8]);
      t.due("number of " + k, t.of.kept(k, 2), 2 * round + k % 8 / 4);
    }
    t.due("kept(40, 0)", t.of.kept(40, 0), -1);
    t.due("kept(-1, 0)", t.of.kept(-1, 0), -1);
    t.due("kept(0, 3)", t.of.kept(0, 3), -1);
    t.due("kept(0, -1)", t.of.kept(0, -1), -1);
  }
}
