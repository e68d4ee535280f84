/** Promises 21 to 25, 31 and 32: what a crash finds, what one flip would do, what arrived, what is given up. */
public final class RecoveryTest {
  private static final String BASE = "journal 2 blocks 2 bytes 16;closes all;takes 2;";

  public static void main(String[] args) {
    byEachByte();
    tornTail();
    damageInTheMiddle();
    damageElsewhere();
    withoutGround();
    lessThanTheSnap();
    nextSegments();
    whereItBegins();
    givenUpAlone();
    greatestFlight();
    staleFrames();
    strangeFrames();
    crashes();
    flips();
    seen();
    telling();
    Trial.close();
  }

  /** Two records of 7 bytes each, 4 bytes between them left over, are on their way. */
  private static Trial onTheirWay(String name) {
    Trial t = Trial.told(name, BASE + "put 1 5 size 0;put 2 300 size 0;");
    t.of.ticks(1);
    t.due("has(6)", t.of.has(6), 18);
    return t;
  }

  private static void byEachByte() {
    Trial t = onTheirWay("21 recovers");
    for (int k = 0; k <= 18; k++) {
      int read = k < 7 ? 0 : k < 18 ? 1 : 2;
      t.due("next by " + k, t.of.recovers(k, 0), read);
      t.due("damaged by " + k, t.of.recovers(k, 1), 0);
      t.due("segment by " + k, t.of.recovers(k, 2), 0);
      t.due("byte by " + k, t.of.recovers(k, 3), read == 0 ? 5 : read == 1 ? 12 : 23);
      t.due("values by " + k, t.of.recovers(k, 4), read);
    }
    t.due("recovers(19, 0)", t.of.recovers(19, 0), -1);
    t.due("recovers(-1, 0)", t.of.recovers(-1, 0), -1);
    t.due("recovers(0, 5)", t.of.recovers(0, 5), -1);
    t.due("recovers(0, -1)", t.of.recovers(0, -1), -1);
    t.due("has(6), nothing having crashed", t.of.has(6), 18);
    t.octets(0, 5, 0, 0);
  }

  private static void tornTail() {
    Trial t = onTheirWay("31 a torn tail");
    t.of.append(3, 3, 3);
    t.of.waits(0, 0);
    t.of.flip(0, 25);
    t.due("has(10)", t.of.has(10), 1);
    t.due("crash(15)", t.of.crash(15), 1);
    t.has(2, 32, 1, 1, 1, 0, 0, 0, 0, 0, 0, 0, 0, 5, 0);
    t.octets(0, 11, 5, 0, 0, 0, 0, 0, 0, 0, 0, 0, 0, 0, 0, 0, 0, 0);
    t.due("value(1)", t.of.value(1), 5);
    t.due("value(2)", t.of.value(2), -1);
    t.due("soon(3)", t.of.soon(3), -1);
    t.due("place(1)", t.of.place(1), 12);
    t.due("place(2)", t.of.place(2), 1);
    t.due("append", t.of.append(4, 4, 0), 1);
    t.due("undo()", t.of.undo(), true);
    t.due("undo()", t.of.undo(), true);
    t.due("has(6)", t.of.has(6), 18);
    t.due("octetOf(0, 25)", t.of.octetOf(0, 25), 255);
  }

  /** Three records in segment 0; a byte of the second is flipped, the third stands right behind it. */
  private static void damageInTheMiddle() {
    Trial t = Trial.told("21 damage in the middle", "journal 2 blocks 2 bytes 24;closes all;takes 1;"
        + "put 1 5 size 0;put 2 6 size 0;put 3 7 size 0;");
    t.of.ticks(2);
    t.of.flip(0, 15);
    t.due("damaged", t.of.recovers(0, 1), 1);
    t.due("next", t.of.recovers(0, 0), 1);
    t.due("byte", t.of.recovers(0, 3), 12);
    t.due("crash(0)", t.of.crash(0), 1);
    t.due("has(14)", t.of.has(14), 1);
    t.due("has(10), nothing being cut", t.of.has(10), 1);
    t.due("append", t.of.append(0, 0, 0), -1);
    t.due("snap()", t.of.snap(), -1);
    t.due("status(2)", t.of.status(2), 1);
    t.due("status(4)", t.of.status(4), 1);
    t.due("ticks(1)", t.of.ticks(1), 0);
    t.due("frames", t.of.segment(0, 3), 1);
    // bytes 12 to 18 of the second, 19 to 29 of the third in two frames; the values' higher bytes are 0
    t.due("giveUp()", t.of.giveUp(), 16);
    t.due("has(14)", t.of.has(14), 0);
    t.due("has(10)", t.of.has(10), 0);
    t.due("place(1)", t.of.place(1), 12);
    t.octets(0, 12, 0, 0, 0, 0, 0, 0, 0, 0, 0, 0, 0, 0, 0, 0);
    t.due("append", t.of.append(0, 0, 0), 1);
    t.due("giveUp(), not halted", t.of.giveUp(), -1);
    t.due("status(4)", t.of.status(4), 2);
  }

  /** The first record of segment 0 is gone, segment 1 has a right head of a greater serial. */
  private static void damageElsewhere() {
    Trial t = Trial.told("21 damage, a greater serial", BASE + "put 1 5 size 16;put 2 6 size 0;");
    t.of.ticks(3);
    t.due("place(2)", t.of.place(2), 2);
    t.of.flip(0, 31);
    t.due("crash(0)", t.of.crash(0), 0);
    t.due("has(14)", t.of.has(14), 1);
    t.due("place(0)", t.of.place(0), 0);
    t.due("place(1)", t.of.place(1), 5);
    t.due("place(2)", t.of.place(2), 1);
    t.due("value(2)", t.of.value(2), -1);
    int count = 0;
    for (int at = 5; at < 32; at++) {
      count += t.of.octetOf(0, at) != 0 ? 1 : 0;
    }
    for (int at = 0; at < 32; at++) {
      count += t.of.octetOf(1, at) != 0 ? 1 : 0;
    }
    t.due("giveUp()", t.of.giveUp(), count);
    t.octets(0, 0, 0, 1, 0, 0, 74, 0, 0);
    t.octets(1, 0, 0, 0, 0, 0, 0, 0);
    t.of.append(7, 7, 16);
    t.of.append(7, 8, 0);
    t.of.ticks(1);
    t.due("serial 3 follows, that of the one given up being 2", t.of.place(2), 3);
  }

  private static void withoutGround() {
    Trial t = Trial.told("21 without ground", BASE + "put 1 5 size 0;put 2 6 size 0;");
    t.of.ticks(3);
    t.of.snap();
    t.of.append(3, 7, 0);
    t.of.ticks(3);
    t.of.flip(0, 2);
    t.due("crash(0)", t.of.crash(0), 2);
    t.due("has(4)", t.of.has(4), 2);
    t.due("has(14)", t.of.has(14), 1);
    t.due("place(0)", t.of.place(0), 0);
    t.due("place(1)", t.of.place(1), 5);
    t.due("place(2)", t.of.place(2), 0);
    t.due("value(2), of the snap", t.of.value(2), 6);
    t.due("value(3)", t.of.value(3), -1);
    t.due("recovers(0, 4)", t.of.recovers(0, 4), 2);
    t.due("segment(0, 2)", t.of.segment(0, 2), 0);
    int count = 0;
    for (int at = 0; at < 32; at++) {
      count += t.of.octetOf(0, at) != 0 ? 1 : 0;
    }
    t.due("giveUp()", t.of.giveUp(), count);
    t.due("place(2)", t.of.place(2), 2);
    t.due("place(1)", t.of.place(1), 5);
    int[] head = {0, 2, 0, 2, Trial.check(7, new int[] {0, 2, 0, 2}, 0, 4), 0, 0, 0};
    t.octets(0, 0, head);
    t.due("has(10)", t.of.has(10), 0);
    t.due("append", t.of.append(4, 4, 0), 2);
    t.of.ticks(3);
    t.due("crash(0)", t.of.crash(0), 3);
    t.due("has(14)", t.of.has(14), 0);
  }

  /** The segment to begin with tells less than the snap has. */
  private static void lessThanTheSnap() {
    Trial t = Trial.told("21 less than the snap", BASE + "put 1 5 size 0;put 2 6 size 0;");
    t.of.ticks(3);
    t.of.snap();
    t.of.flip(0, 17);
    t.due("next", t.of.recovers(0, 0), 2);
    t.due("damaged", t.of.recovers(0, 1), 1);
    t.of.crash(0);
    t.due("place(2)", t.of.place(2), 0);
    t.due("value(2)", t.of.value(2), 6);
    t.due("flip back", t.of.flip(0, 17), 1);
    t.due("crash(0)", t.of.crash(0), 2);
    t.due("has(14)", t.of.has(14), 0);
    t.due("place(1)", t.of.place(1), 23);
  }

  private static void nextSegments() {
    Trial t = Trial.told("21 over segments", "journal 3 blocks 2 bytes 16;closes all;takes 1;");
    for (int i = 0; i < 3; i++) {
      t.of.append(i, 100 + i, 16);
      t.of.ticks(2);
    }
    t.due("crash(0)", t.of.crash(0), 3);
    t.due("place(0)", t.of.place(0), 2);
    t.due("place(2)", t.of.place(2), 3);
    t.due("value(2)", t.of.value(2), 102);
    for (int i = 0; i < 3; i++) {
      t.due("free " + i, t.of.segment(i, 2), 0);
    }
    t.of.snap();
    t.due("free", t.of.segment(1, 2), 1);
    t.of.append(5, 200, 16);
    t.of.ticks(1);
    // only the head of segment 0 has arrived: it goes on there, though it is of the snap's number
    t.due("segment by 4", t.of.recovers(4, 2), 2);
    t.due("segment by 5", t.of.recovers(5, 2), 0);
    t.due("byte by 5", t.of.recovers(5, 3), 5);
    t.due("crash(6)", t.of.crash(6), 3);
    t.due("place(2)", t.of.place(2), 4);
    t.octets(0, 4, Trial.check(7, new int[] {0, 4, 0, 3}, 0, 4), 0, 0);

    // two heads tell the same number and a serial as great: the first one counts
    int[] image = t.image();
    System.arraycopy(image, 34, image, 66, 32);
    t.tapeImage(image);
    t.due("on()", t.of.on(), true);
    t.due("place(0)", t.of.place(0), 0);
  }

  /** Four segments of 32 bytes, their serials, first numbers and a record each with the key of the segment. */
  private static Trial fourHeads(String name, int snap, int[] serials, int[] firsts) {
    Trial t = Trial.told(name, "journal 4 blocks 2 bytes 16;closes all;takes 1;");
    int[] image = t.image();
    image[0] = snap >> 8;
    image[1] = snap & 255;
    for (int i = 0; i < 4; i++) {
      if (serials[i] > 0) {
        Trial.head(image, 32 * i, serials[i], firsts[i]);
        Trial.frame(image, 32 * i + 5, serials[i], i, 500 + i);
      } else {
        java.util.Arrays.fill(image, 34 + 32 * i, 34 + 32 * i + 5, 7);
      }
    }
    t.tapeImage(image);
    t.due("on()", t.of.on(), true);
    return t;
  }

  private static void recovered(Trial t, int next, int segment, int at, int serial, int halted) {
    t.due("has(3)", t.of.has(3), next);
    t.due("place(0)", t.of.place(0), segment);
    t.due("place(1)", t.of.place(1), at);
    t.due("place(2)", t.of.place(2), serial);
    t.due("has(14)", t.of.has(14), halted);
  }

  private static void whereItBegins() {
    Trial t = fourHeads("21 the greatest serial of those no greater than the snap", 5, new int[] {300, 301, 299, 302},
        new int[] {3, 5, 5, 6});
    recovered(t, 7, 3, 12, 302, 0);
    t.due("value(0)", t.of.value(0), -1);
    t.due("value(1)", t.of.value(1), 501);
    t.due("value(2)", t.of.value(2), -1);
    t.due("recovers(0, 4)", t.of.recovers(0, 4), 2);
    t = fourHeads("21 the first of like ones", 5, new int[] {300, 301, 301, 301}, new int[] {4, 5, 5, 5});
    recovered(t, 6, 1, 12, 301, 0);
    t = fourHeads("21 all four, back to the first", 0, new int[] {4, 1, 3, 2}, new int[] {3, 0, 2, 1});
    recovered(t, 4, 0, 12, 4, 0);
    t.due("recovers(0, 4)", t.of.recovers(0, 4), 4);
    t.due("value(0)", t.of.value(0), 500);
    t = fourHeads("21 the next of the greatest serial, of like ones the first", 0, new int[] {7, 2, 9, 9},
        new int[] {1, 0, 1, 1});
    recovered(t, 2, 2, 12, 9, 0);
    t = fourHeads("21 none of a greater serial", 1, new int[] {7, 7, 6, 0}, new int[] {1, 2, 2, 0});
    recovered(t, 2, 0, 12, 7, 0);
    t = fourHeads("21 a next one of a number too great", 0, new int[] {7, 8, 6, 0}, new int[] {0, 2, 0, 0});
    recovered(t, 1, 0, 12, 7, 1);
    t = fourHeads("21 records below the snap leave the table as it is", 1, new int[] {1, 0, 0, 0}, new int[4]);
    recovered(t, 1, 0, 12, 1, 0);
    t.due("value(0)", t.of.value(0), -1);
    t = fourHeads("21 key 0 counts", 0, new int[] {1, 0, 0, 0}, new int[4]);
    t.due("recovers(0, 4)", t.of.recovers(0, 4), 1);
  }

  /** What is given up is what lies behind THE END and all of greater serials: the rest stays. */
  private static void givenUpAlone() {
    Trial t = fourHeads("32 giveUp", 0, new int[] {600, 700, 0, 600}, new int[] {0, 2, 0, 1});
    recovered(t, 1, 0, 12, 600, 1);
    t.of.flip(0, 12);
    int count = 1;
    for (int at = 0; at < 32; at++) {
      count += t.of.octetOf(1, at) != 0 ? 1 : 0;
    }
    t.due("giveUp()", t.of.giveUp(), count);
    recovered(t, 1, 0, 12, 600, 0);
    t.octets(0, 0, 2, 88, 0, 0);
    t.octets(0, 12, 0);
    t.octets(1, 0, 0, 0, 0, 0, 0, 0);
    t.octets(2, 0, 7, 7, 7, 7, 7);
    t.octets(3, 0, 2, 88, 0, 1);
    t.due("segment(3, 3)", t.of.segment(3, 3), 1);

    t = fourHeads("32 giveUp without ground", 4917, new int[] {300, 0, 0, 0}, new int[] {4918, 0, 0, 0});
    recovered(t, 4917, 0, 5, 0, 1);
    t.due("giveUp()", t.of.giveUp() > 15, true);
    recovered(t, 4917, 0, 5, 301, 0);
    t.due("segment(0, 0)", t.of.segment(0, 0), 301);
    t.due("segment(0, 1)", t.of.segment(0, 1), 4917);
    t.octets(1, 0, 0, 0, 0, 0, 0);
    t.of.append(1, 1, 16);
    t.of.append(1, 1, 16);
    t.of.ticks(2);
    t.due("segment(1, 0)", t.of.segment(1, 0), 302);
    t.due("segment(1, 1)", t.of.segment(1, 1), 4918);
    t.due("frames of serial 302", t.of.segment(1, 3), 2);
  }

  /** Sixteen records on the greatest disk, four a segment: the fourth ends just at the end of its own. */
  private static void greatestFlight() {
    StringBuilder text = new StringBuilder("journal 4 blocks 4 bytes 32;closes all;takes 1;");
    for (int i = 0; i < 16; i++) {
      text.append("put 15 ").append(i == 2 ? 999 : i).append(" size ").append(i == 3 ? 27 : 20).append(';');
    }
    Trial t = Trial.told("24 the greatest disk", text.toString());
    t.of.ticks(1);
    int way = 123 + 3 * 121;
    t.due("has(6)", t.of.has(6), way);
    t.due("arrived(-1)", t.of.arrived(-1), way + 1);
    t.due("arrived(" + way + ")", t.of.arrived(way), way);
    t.due("tells(0)", t.of.tells(0), 15);
    // from the third record on, 6 and 32 bytes have to arrive till the fourth is there
    t.due("tells(1)", t.of.tells(1), 38);
    t.due("image()", t.of.image(), 547);
    t = new Picture(4, 4, 32).head(0, 1, 0).on("39 the greatest disk");
    t.due("room(40)", t.of.room(40), 8);
  }

  /** Behind a segment's new head lie frames of its former serial. */
  private static void staleFrames() {
    Trial t = Trial.told("21 stale frames", BASE);
    t.of.append(1, 1, 16);
    t.of.ticks(3);
    t.of.append(2, 2, 16);
    t.of.ticks(3);
    t.of.snap();
    t.of.append(3, 3, 0);
    t.of.ticks(3);
    t.due("serial", t.of.segment(0, 0), 3);
    t.due("frames", t.of.segment(0, 3), 1);
    t.due("a stale one stands", t.of.octetOf(0, 17), 4);
    t.due("crash(0)", t.of.crash(0), 3);
    t.due("has(14)", t.of.has(14), 0);
    t.due("it is cut", t.of.octetOf(0, 17), 0);
    t.octets(1, 17, 4, 12, 2);
  }

  /** Frames whose check is right, but whose kind, length, serial, key or value can't be. */
  private static void strangeFrames() {
    frameOf("as it should be", 1, 0, 1, 3, 1, 15, 3, 231);
    frameOf("a key above 15", 0, 0, 1, 3, 1, 16, 0, 0);
    frameOf("a value above 999", 0, 0, 1, 3, 1, 0, 3, 232);
    frameOf("too little payload", 0, 0, 1, 2, 1, 0, 3);
    frameOf("no payload", 0, 0, 1, 0, 1);
    frameOf("kind 4 where a record begins", 0, 0, 4, 3, 1, 0, 0, 0);
    frameOf("kind 3 where a record begins", 0, 0, 3, 3, 1, 0, 0, 0);
    frameOf("kind 0", 0, 0, 0, 3, 1, 0, 0, 0);
    frameOf("kind 5", 0, 0, 5, 3, 1, 0, 0, 0);
    frameOf("another serial", 0, 0, 1, 3, 2, 0, 0, 0);
    frameOf("a record that does not end", 0, 0, 2, 3, 1, 0, 0, 0);
    frameOf("payload to the block's end", 1, 0, 1, 7, 1, 0, 0, 0, 1, 2, 3, 4);
    frameOf("payload beyond the block's end", 0, 0, 1, 8, 1, 0, 0, 0, 1, 2, 3, 4, 5);
    // one byte on, behind a byte that begins none: damage, whatever the kind and the record tell, but not kind 5
    frameOf("one behind", 0, 1, 99, 77, 1, 3, 1, 0, 0, 0);
    frameOf("one right behind", 0, 1, 98, 1, 3, 1, 0, 0, 0);
    frameOf("one of kind 4 behind", 0, 1, 99, 77, 4, 1, 1, 200);
    frameOf("one of kind 5 behind", 0, 0, 99, 77, 5, 3, 1, 0, 0, 0);
    frameOf("one of another serial behind", 0, 0, 99, 77, 1, 3, 2, 0, 0, 0);
    frameOf("one without payload behind", 0, 0, 99, 77, 1, 0, 1);
  }

  /** Segment 0 has a frame of these bytes, its check put ahead, at 5; told behind 98 at 6, behind 99 and 77 at 7. */
  private static void frameOf(String name, int read, int damaged, int... bytes) {
    Trial t = Trial.told("21 " + name, "journal 2 blocks 2 bytes 16;");
    int[] image = t.image();
    int from = bytes[0] == 99 ? 2 : bytes[0] == 98 ? 1 : 0;
    int at = 34 + 5 + from;
    System.arraycopy(bytes, 0, image, 39, from);
    System.arraycopy(bytes, from, image, at + 1, bytes.length - from);
    image[at] = Trial.check(7, image, at + 1, at + 1 + bytes.length - from);
    t.tapeImage(image);
    t.due("on()", t.of.on(), true);
    t.due("next", t.of.has(3), read);
    t.due("damaged", t.of.has(14), damaged);
  }

  private static void crashes() {
    Trial t = onTheirWay("31 crash");
    t.due("crash(-1)", t.of.crash(-1), -1);
    t.due("crash(19)", t.of.crash(19), -1);
    t.due("status(4)", t.of.status(4), 2);
    t.due("crash(18)", t.of.crash(18), 2);
    t.due("has(4)", t.of.has(4), 2);
    t.due("has(7)", t.of.has(7), 0);
    t.due("crash(0)", t.of.crash(0), 2);
    t.due("crash(1)", t.of.crash(1), -1);
    t.due("has(2), ticks stay", t.of.has(2), 1);
  }

  private static void flips() {
    Trial t = onTheirWay("22 flips");
    // nothing has arrived: each byte of the head leaves no ground, all others are cut
    t.due("flips(0)", t.of.flips(0), 5);
    t.due("flips(1)", t.of.flips(1), 0);
    t.due("flips(2)", t.of.flips(2), 59);
    t.of.ticks(2);
    // the first record's 7 bytes: the second stands behind them; the second's 7 bytes: it is lost
    t.due("flips(1)", t.of.flips(1), 7);
    t.due("flips(0)", t.of.flips(0), 12);
    t.due("flips(2)", t.of.flips(2), 45);
    t.due("flips(3)", t.of.flips(3), -1);
    t.due("flips(-1)", t.of.flips(-1), -1);
    t.due("has(10)", t.of.has(10), 0);
    t.due("has(13)", t.of.has(13), 2);
    t.of.snap();
    t.due("flips(0), all below the snap", t.of.flips(0), 19);
    t.due("flips(1)", t.of.flips(1), 0);
  }

  private static void seen() {
    Trial t = onTheirWay("23 see, 24 arrived");
    t.due("arrived(-1), nothing being seen", t.of.arrived(-1), 19);
    t.due("arrived(18)", t.of.arrived(18), 18);
    t.due("arrived(19)", t.of.arrived(19), -1);
    t.due("arrived(-2)", t.of.arrived(-2), -1);
    see(t, 1, 1, 0, 5);
    t.due("arrived(-1)", t.of.arrived(-1), 12);
    t.due("arrived(0)", t.of.arrived(0), 7);
    see(t, 2, 1, 0, 5, 2, 3, 232);
    t.due("arrived(-1)", t.of.arrived(-1), 11);
    t.due("arrived(10)", t.of.arrived(10), 17);
    see(t, 1, 2, 1, 44);
    t.due("arrived(-1)", t.of.arrived(-1), 1);
    t.due("arrived(0)", t.of.arrived(0), 18);
    int[] refused = {0, 1, 2, 4, 51};
    for (int length : refused) {
      see(t, -1, new int[length]);
    }
    see(t, -1, 16, 0, 0);
    see(t, -1, 0, 3, 233);
    see(t, -1, 0, 3, 232, 0, 128, 0);
    t.due("status(1)", t.of.status(1), 8);
    t.due("has(12), all staying", t.of.has(12), 1);
    t.due("arrived(0)", t.of.arrived(0), 18);
    see(t, 16, 15, 3, 232, 15, 3, 232, 15, 3, 232, 15, 3, 232, 15, 3, 232, 15, 3, 232, 15, 3, 232, 15, 3, 232,
        15, 3, 232, 15, 3, 232, 15, 3, 232, 15, 3, 232, 15, 3, 232, 15, 3, 232, 15, 3, 232, 15, 3, 232);
    t.due("has(12)", t.of.has(12), 16);
    t.due("arrived(-1)", t.of.arrived(-1), 19);
    t.of.undo();
    t.due("has(12), seen being no act", t.of.has(12), 16);
    t.due("arrived(-1), nothing being on its way", t.of.arrived(-1), 1);
  }

  private static void see(Trial t, int answer, int... octets) {
    t.tape(octets);
    t.due("see()", t.of.see(), answer);
    t.due("end(1), the tape having gone", octets.length > 0 && t.of.end(1), false);
  }

  private static void telling() {
    Trial t = onTheirWay("25 tells");
    // by key 1: 7 without, 12 with; by key 2: 18 without, 1 with; by the rest: 19
    t.due("tells(0)", t.of.tells(0), 1);
    t.due("tells(1)", t.of.tells(1), 12);
    t.due("tells(2)", t.of.tells(2), -1);
    t.due("tells(-1)", t.of.tells(-1), -1);
    see(t, 1, 1, 0, 5);
    t.due("tells(0)", t.of.tells(0), 2);
    t.due("tells(1)", t.of.tells(1), 11);
    see(t, 1, 2, 1, 44);
    t.due("tells(0), the first of like ones", t.of.tells(0), 0);
    t.due("tells(1)", t.of.tells(1), 1);
    see(t, 1, 2, 1, 45);
    t.due("tells(0), none being left", t.of.tells(0), -1);
    t.due("tells(1)", t.of.tells(1), -1);
  }
}
