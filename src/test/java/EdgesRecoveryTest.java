/** The edges of a crash in part II of "Terms", a test a sentence: what is read, where it ends, what is damaged, given up. */
public final class EdgesRecoveryTest {
  public static void main(String[] args) {
    noGreaterThanTheSnaps();
    ofTheGreatestSerial();
    payloadOf1ByteOrMore();
    endsInItsBlock();
    checkIsRight();
    serialModulo256();
    kindWhereARecordBegins();
    kindWithinARecord();
    recordOf3BytesOrMore();
    key15Value999();
    bytesLeftWhateverTheseAre();
    tillTheSegmentEnds();
    fromTheSnapsNumberOn();
    theEnd();
    goesOnByItsNumber();
    goesOnByItsSerial();
    goesOnInTheGreatest();
    withoutGroundLessThanTheSnaps();
    withoutGroundNothingWasRead();
    damagedByAGreaterSerial();
    damagedBehindTheByte();
    damagedWhateverTheKind();
    damagedInThisOneAlone();
    notDamagedBecomes0();
    halted();
    acknowledged();
    givenUp();
    givenUpWithoutGround();
    snapHasTheTable();
    Trial.close();
  }

  private static void recovered(Trial t, int next, int segment, int at, int serial, int damaged) {
    t.due("has(3)", t.of.has(3), next);
    t.due("has(4)", t.of.has(4), next);
    t.due("place(0)", t.of.place(0), segment);
    t.due("place(1)", t.of.place(1), at);
    t.due("place(2)", t.of.place(2), serial);
    t.due("has(14)", t.of.has(14), damaged);
    t.due("recovers(0, 0)", t.of.recovers(0, 0), next);
    t.due("recovers(0, 1)", t.of.recovers(0, 1), damaged);
    t.due("recovers(0, 2)", t.of.recovers(0, 2), segment);
    t.due("recovers(0, 3)", t.of.recovers(0, 3), at);
  }

  /** II: of all SEGMENTS with a right HEAD whose first number is no greater than the SNAP's. */
  private static void noGreaterThanTheSnaps() {
    recovered(new Picture().snap(5).head(0, 1, 5).on("II: just the SNAP's"), 5, 0, 5, 1, 0);
    recovered(new Picture().snap(5).head(0, 1, 6).on("II: one greater"), 5, 0, 5, 0, 1);
    recovered(new Picture().snap(5).head(0, 1, 4).record(0, 5, 1, 1, 1).on("II: one less"), 5, 0, 12, 1, 0);
    recovered(new Picture().snap(5).head(0, 2, 6).head(1, 1, 5).record(1, 5, 1, 1, 1).on("II: one greater, one not"),
        6, 0, 5, 2, 0);
    recovered(new Picture().snap(0).head(1, 9, 0).on("II: 0 of 0"), 0, 1, 5, 9, 0);
    recovered(new Picture().snap(65535).head(1, 9, 65535).on("II: 65535"), 65535, 1, 5, 9, 0);
    recovered(new Picture().snap(65534).head(1, 9, 65535).on("II: 65535 of 65534"), 65534, 0, 5, 0, 1);
    recovered(new Picture().snap(0).octet(0, 0, 0, 1, 0, 0, 75).on("II: no right HEAD"), 0, 0, 5, 0, 1);
    recovered(new Picture().snap(0).head(0, 0, 0).on("II: a HEAD of serial 0"), 0, 0, 5, 0, 1);
  }

  /** II: it begins with that of the greatest serial, of like ones with the first. */
  private static void ofTheGreatestSerial() {
    recovered(heads(7, 6, 5, 4).on("II: the first"), 0, 0, 5, 7, 0);
    recovered(heads(6, 7, 5, 4).on("II: the second"), 0, 1, 5, 7, 0);
    recovered(heads(4, 5, 6, 7).on("II: the last"), 0, 3, 5, 7, 0);
    recovered(heads(4, 7, 7, 7).on("II: the first of like ones"), 0, 1, 5, 7, 0);
    recovered(heads(4, 5, 7, 7).on("II: the first of like ones"), 0, 2, 5, 7, 0);
    recovered(heads(255, 256, 1, 2).on("II: beyond a byte"), 0, 1, 5, 256, 0);
    recovered(heads(65534, 65535, 1, 2).on("II: the greatest"), 0, 1, 5, 65535, 0);
    recovered(heads(9, 8, 7, 6).snap(3).head(3, 6, 3).record(3, 5, 6, 1, 1).head(0, 9, 4).head(1, 8, 5).head(2, 7, 5)
        .on("II: the greatest of those that can be"), 4, 0, 5, 9, 0);
  }

  /** Four segments with heads of first number 0. */
  private static Picture heads(int... serials) {
    Picture picture = new Picture(4, 2, 16);
    for (int segment = 0; segment < 4; segment++) {
      picture.head(segment, serials[segment], 0);
    }
    return picture;
  }

  private static Picture one() {
    return new Picture().head(0, 1, 0);
  }

  /** So many right frames and records are read of segment 0, to a byte; it is damaged or not. */
  private static void read(String name, Picture picture, int frames, int records, int end, int damaged) {
    Trial t = picture.on("II: " + name);
    t.due("segment(0, 3)", t.of.segment(0, 3), frames);
    t.due("has(3)", t.of.has(3), records);
    t.due("place(1)", t.of.place(1), end);
    t.due("has(14)", t.of.has(14), damaged);
    t.due("frame behind the last", t.of.frame(0, frames, 0), -1);
  }

  /** II: A FRAME is right, if its payload is 1 byte or more. */
  private static void payloadOf1ByteOrMore() {
    read("payload 0", one().frame(0, 5, 1, 1), 0, 0, 5, 0);
    read("payload 0 of KIND 2", one().frame(0, 5, 1, 2), 0, 0, 5, 0);
    // a torn record is cut: the frames are those that were right ahead of it
    Trial t = new Picture(3, 2, 16).head(0, 1, 0).frame(0, 5, 1, 2, 9).head(1, 2, 0).on("II: payload 1 of KIND 2");
    t.due("segment(0, 3)", t.of.segment(0, 3), 1);
    t.due("frame(0, 0, 2)", t.of.frame(0, 0, 2), 1);
    read("payload 1 and 2", one().frame(0, 5, 1, 2, 9).frame(0, 10, 1, 4, 1, 1), 2, 1, 16, 0);
    read("payload 2 and 1", one().frame(0, 5, 1, 2, 9, 1).frame(0, 11, 1, 4, 1), 2, 1, 16, 0);
    read("payload 2 and 0", one().frame(0, 5, 1, 2, 9, 1).frame(0, 11, 1, 4).frame(0, 16, 1, 1), 0, 0, 5, 0);
    read("payload 1, 1, 1", one().frame(0, 5, 1, 2, 9).frame(0, 10, 1, 3, 1).frame(0, 16, 1, 4, 1), 3, 1, 21, 0);
    read("payload 1, 0", one().frame(0, 5, 1, 2, 9).frame(0, 10, 1, 3).frame(0, 16, 1, 3), 0, 0, 5, 0);
  }

  /** II: ends in its BLOCK. */
  private static void endsInItsBlock() {
    read("to the block's end", one().frame(0, 5, 1, 1, 1, 1, 1, 0, 0, 0, 0), 1, 1, 16, 0);
    read("a byte ahead of it", one().frame(0, 5, 1, 1, 1, 1, 1, 0, 0, 0), 1, 1, 15, 0);
    read("a byte beyond it", one().frame(0, 5, 1, 1, 1, 1, 1, 0, 0, 0, 0, 0), 0, 0, 5, 0);
    Picture second = one().frame(0, 5, 1, 1, 1, 1, 1, 0, 0, 0, 0);
    read("to the segment's end", second.frame(0, 16, 1, 1, 1, 1, 1, 0, 0, 0, 0, 0, 0, 0, 0, 0), 2, 2, 32, 0);
    second = one().frame(0, 5, 1, 1, 1, 1, 1, 0, 0, 0, 0);
    read("a byte beyond it", second.frame(0, 16, 1, 1, 1, 1, 1, 0, 0, 0, 0, 0, 0, 0, 0, 0, 0), 1, 1, 16, 0);
    read("255 bytes", one().frameOfLength(0, 5, 1, 1, 255, 1, 1, 1), 0, 0, 5, 0);
  }

  /** II: its CHECK is right: of all behind it, that is of KIND, length, serial and payload. */
  private static void checkIsRight() {
    read("right", one().record(0, 5, 1, 1, 1), 1, 1, 12, 0);
    for (int at = 5; at < 12; at++) {
      Trial t = one().record(0, 5, 1, 1, 1).on("II: byte " + at + " is wrong");
      t.of.flip(0, at);
      t.due("segment(0, 3)", t.of.segment(0, 3), 0);
      t.due("crash(0)", t.of.crash(0), 0);
    }
    for (int value = 0; value < 300; value++) {
      int check = Trial.check(7, new int[] {1, 3, 1, 1, value / 256, value % 256}, 0, 6);
      if (check == 0 || check == 250) {
        read("a CHECK of " + check, one().record(0, 5, 1, 1, value), 1, 1, 12, 0);
        read("one more", one().record(0, 5, 1, 1, value).octet(0, 5, check + 1), 0, 0, 5, 0);
        read("one less", one().record(0, 5, 1, 1, value).octet(0, 5, (check + 255) % 256), 0, 0, 5, 0);
      }
      if (check == 0) {
        read("251 in place of 0", one().record(0, 5, 1, 1, value).octet(0, 5, 251), 0, 0, 5, 0);
      }
    }
  }

  /** II: its serial is that of the HEAD modulo 256. */
  private static void serialModulo256() {
    int[][] serials = {{1, 1, 1}, {1, 2, 0}, {1, 0, 0}, {1, 255, 0}, {255, 255, 1}, {255, 0, 0}, {256, 0, 1}, {256, 1, 0},
      {257, 1, 1}, {257, 0, 0}, {511, 255, 1}, {65535, 255, 1}, {65535, 254, 0}};
    for (int[] row : serials) {
      Picture picture = new Picture().head(0, row[0], 0).record(0, 5, row[1], 1, 1);
      read("serial " + row[1] + " of " + row[0], picture, row[2], row[2], 5 + 7 * row[2], 0);
    }
  }

  /** II: its KIND can be there (1, 2 where a RECORD begins). */
  private static void kindWhereARecordBegins() {
    for (int kind : new int[] {0, 1, 2, 3, 4, 5, 255}) {
      Trial t = new Picture(3, 2, 16).head(0, 1, 0).frame(0, 5, 1, kind, 1, 1, 1).head(1, 2, 0).on("II: KIND " + kind + " first");
      t.due("segment(0, 3)", t.of.segment(0, 3), kind == 1 || kind == 2 ? 1 : 0);
      t.due("frame(0, 0, 1)", t.of.frame(0, 0, 1), kind == 1 || kind == 2 ? kind : -1);
      read("KIND " + kind + " first", one().frame(0, 5, 1, kind, 1, 1, 1), kind == 1 ? 1 : 0, kind == 1 ? 1 : 0,
          kind == 1 ? 12 : 5, 0);
    }
    // behind a whole record another begins
    for (int kind : new int[] {0, 1, 2, 3, 4, 5}) {
      read("KIND " + kind + " behind KIND 1", one().record(0, 5, 1, 1, 1).frame(0, 16, 1, kind, 1, 1, 1), kind == 1 ? 2 : 1,
          kind == 1 ? 2 : 1, kind == 1 ? 23 : 12, 0);
      read("KIND " + kind + " behind KIND 4", one().frame(0, 5, 1, 2, 9).frame(0, 10, 1, 4, 1, 1).frame(0, 16, 1, kind, 1, 1, 1),
          kind == 1 ? 3 : 2, kind == 1 ? 2 : 1, kind == 1 ? 23 : 16, 0);
    }
  }

  /** II: its KIND can be there (else 3, 4). */
  private static void kindWithinARecord() {
    for (int kind : new int[] {0, 1, 2, 3, 4, 5, 255}) {
      Trial t = new Picture(3, 2, 16).head(0, 1, 0).frame(0, 5, 1, 2, 1).frame(0, 10, 1, kind, 1, 1).head(1, 2, 0)
          .on("II: KIND " + kind + " within");
      t.due("segment(0, 3)", t.of.segment(0, 3), kind == 3 || kind == 4 ? 2 : 1);
      t.due("frame(0, 1, 1)", t.of.frame(0, 1, 1), kind == 3 || kind == 4 ? kind : -1);
      t = new Picture(3, 2, 16).head(0, 1, 0).frame(0, 5, 1, 2, 1).frame(0, 10, 1, 3, 1).frame(0, 16, 1, kind, 1).head(1, 2, 0)
          .on("II: KIND " + kind + " behind KIND 3");
      t.due("segment(0, 3)", t.of.segment(0, 3), kind == 3 || kind == 4 ? 3 : 2);
      t.due("frame(0, 2, 1)", t.of.frame(0, 2, 1), kind == 3 || kind == 4 ? kind : -1);
    }
  }

  /** II: if it is the last one of a RECORD, the payload of that has 3 bytes or more. */
  private static void recordOf3BytesOrMore() {
    read("1 byte", one().frame(0, 5, 1, 1, 1), 0, 0, 5, 0);
    read("2 bytes", one().frame(0, 5, 1, 1, 1, 1), 0, 0, 5, 0);
    read("3 bytes", one().frame(0, 5, 1, 1, 1, 1, 1), 1, 1, 12, 0);
    read("1 and 1", one().frame(0, 5, 1, 2, 1).frame(0, 10, 1, 4, 1), 0, 0, 5, 0);
    read("1 and 2", one().frame(0, 5, 1, 2, 1).frame(0, 10, 1, 4, 1, 1), 2, 1, 16, 0);
    // it begins anew with each record: 3 bytes of the one before do not count
    read("3, then 2", one().record(0, 5, 1, 1, 1).frame(0, 16, 1, 1, 1, 1), 1, 1, 12, 0);
    read("1 and 2, then 1 and 1", one().frame(0, 5, 1, 2, 1).frame(0, 10, 1, 4, 1, 1).frame(0, 16, 1, 2, 1).frame(0, 21, 1, 4, 1),
        2, 1, 16, 0);
    Trial t = new Picture(3, 2, 16).head(0, 1, 0).frame(0, 5, 1, 2, 1).frame(0, 10, 1, 4, 1).head(1, 2, 0).on("II: 1 and 1");
    t.due("segment(0, 3), the last one being wrong", t.of.segment(0, 3), 1);
  }

  /** II: a KEY 15, a VALUE 999 at most. */
  private static void key15Value999() {
    int[][] records = {{0, 0, 1}, {15, 999, 1}, {16, 0, 0}, {17, 0, 0}, {255, 0, 0}, {0, 1000, 0}, {0, 1001, 0}, {0, 1023, 0},
      {0, 1024, 0}, {0, 65535, 0}, {0, 32768, 0}, {16, 1000, 0}};
    for (int[] row : records) {
      read("KEY " + row[0] + ", VALUE " + row[1], one().record(0, 5, 1, row[0], row[1]), row[2], row[2], 5 + 7 * row[2], 0);
      Picture parts = new Picture(2, 2, 20).head(0, 1, 0).frame(0, 5, 1, 2, row[0]).frame(0, 10, 1, 3, row[1] >> 8)
          .frame(0, 15, 1, 4, row[1] & 255);
      read("KEY " + row[0] + ", VALUE " + row[1] + " in parts", parts, row[2] * 3, row[2], row[2] > 0 ? 20 : 5, 0);
    }
    Trial t = one().record(0, 5, 1, 15, 999).on("II: KEY 15, VALUE 999");
    t.due("value(15)", t.of.value(15), 999);
    // what is no last one of a record is right, whatever its key
    t = new Picture(3, 2, 16).head(0, 1, 0).frame(0, 5, 1, 2, 200, 200, 200).head(1, 2, 0).on("II: KEY 200 in KIND 2");
    t.due("segment(0, 3)", t.of.segment(0, 3), 1);
  }

  /** II: where fewer than 5 bytes of a BLOCK are left, whatever these are, it goes on at the next one. */
  private static void bytesLeftWhateverTheseAre() {
    for (int left = 0; left <= 6; left++) {
      Picture picture = new Picture(2, 2, 12 + left).head(0, 1, 0).record(0, 5, 1, 1, 1).record(0, 12 + left, 1, 2, 2);
      if (12 + left >= 16) {
        for (int at = 12; at < 12 + left; at++) {
          picture.octet(0, at, 255);
        }
        boolean goesOn = left < 5;
        read(left + " bytes left", picture, goesOn ? 2 : 1, goesOn ? 2 : 1, goesOn ? 19 + left : 12, goesOn ? 0 : 1);
      }
    }
    int[][] lengths = {{4, 15, 1}, {3, 14, 2}, {2, 13, 3}, {1, 12, 4}};
    for (int[] row : lengths) {
      int[] payload = new int[row[0] + 2];
      payload[0] = 1;
      Picture picture = one().frame(0, 5, 1, 1, payload).record(0, 16, 1, 2, 2);
      for (int at = 9 + payload.length; at < 16; at++) {
        picture.octet(0, at, 255);
      }
      read(16 - 9 - payload.length + " bytes left of 16", picture, 2, 2, 23, 0);
    }
    Picture five = new Picture(2, 2, 17).head(0, 1, 0).record(0, 5, 1, 1, 1).record(0, 17, 1, 2, 2);
    read("5 bytes left are not left out", five, 1, 1, 12, 1);
  }

  /** II: till no right one is where one should be, or the SEGMENT ends. */
  private static void tillTheSegmentEnds() {
    Picture full = one().frame(0, 5, 1, 1, 1, 1, 1, 0, 0, 0, 0).frame(0, 16, 1, 1, 1, 1, 1, 0, 0, 0, 0, 0, 0, 0, 0, 0);
    // a frame right behind the segment's end is none of it
    read("at its end", full.record(1, 0, 1, 2, 2), 2, 2, 32, 0);
    for (int left = 1; left < 5; left++) {
      int[] payload = new int[12 - left];
      Picture picture = one().frame(0, 5, 1, 1, 1, 1, 1, 0, 0, 0, 0).frame(0, 16, 1, 1, payload);
      Trial t = picture.octet(0, 31, 77).on("II: " + left + " bytes left of the last block");
      recovered(t, 2, 0, 32 - left, 1, 0);
      t.due("octetOf(0, 31), being behind THE END", t.of.octetOf(0, 31), 0);
    }
    read("torn at its end", one().frame(0, 5, 1, 1, 1, 1, 1, 0, 0, 0, 0).frame(0, 16, 1, 2, 1, 1, 1, 0, 0, 0, 0, 0, 0, 0, 0, 0),
        1, 1, 16, 0);
  }

  /** II: of each from the SNAP's number on the TABLE has its VALUE. */
  private static void fromTheSnapsNumberOn() {
    for (int snap = 0; snap <= 3; snap++) {
      Picture picture = new Picture(2, 2, 23).snap(snap).value(0, 100).value(1, 101).value(2, 102).value(3, 103).head(0, 1, 0)
          .record(0, 5, 1, 0, 0).record(0, 12, 1, 1, 1).record(0, 23, 1, 2, 2);
      Trial t = picture.on("II: SNAP " + snap + " of 3");
      recovered(t, 3, 0, 30, 1, 0);
      for (int key = 0; key < 4; key++) {
        t.due("value(" + key + ")", t.of.value(key), key < 3 && key >= snap ? key : 100 + key);
      }
    }
    Trial t = one().frame(0, 5, 1, 1, 6, 1, 1, 99, 98).on("II: whatever the bytes of its SIZE are");
    t.due("value(6)", t.of.value(6), 257);
    t = one().record(0, 5, 1, 7, 1).record(0, 16, 1, 7, 2).on("II: the later one");
    t.due("value(7)", t.of.value(7), 2);
    t.due("recovers(0, 4)", t.of.recovers(0, 4), 1);
  }

  /** II: THE END is right behind the last RECORD that was read whole, behind the HEAD without one. */
  private static void theEnd() {
    recovered(one().on("II: without one"), 0, 0, 5, 1, 0);
    recovered(one().frame(0, 5, 1, 2, 1).on("II: a torn one alone"), 0, 0, 5, 1, 0);
    recovered(one().frame(0, 5, 1, 2, 1).frame(0, 10, 1, 3, 1).frame(0, 16, 1, 3, 1).on("II: a torn one of three"), 0, 0, 5, 1, 0);
    recovered(one().record(0, 5, 1, 1, 1).on("II: one, its block having 4 bytes left"), 1, 0, 12, 1, 0);
    recovered(one().record(0, 5, 1, 1, 1).frame(0, 16, 1, 2, 1).on("II: one and a torn one"), 1, 0, 12, 1, 0);
    recovered(one().frame(0, 5, 1, 1, 1, 1, 1, 0, 0, 0, 0).on("II: to the block's end"), 1, 0, 16, 1, 0);
  }

  /** Segment 0 has records 0 and 1, segment 1 a head. */
  private static Picture two(int serial, int number) {
    return one().record(0, 5, 1, 1, 1).record(0, 16, 1, 2, 2).head(1, serial, number);
  }

  /** II: a greater serial and just the next number. */
  private static void goesOnByItsNumber() {
    recovered(two(2, 2).on("II: just the next number"), 2, 1, 5, 2, 0);
    recovered(two(2, 2).record(1, 5, 2, 3, 3).on("II: and a record"), 3, 1, 12, 2, 0);
    recovered(two(2, 1).on("II: one less"), 2, 0, 23, 1, 1);
    recovered(two(2, 3).on("II: one greater"), 2, 0, 23, 1, 1);
    recovered(two(2, 2 + 256).on("II: 256 greater"), 2, 0, 23, 1, 1);
    Trial t = new Picture().snap(65535).head(0, 1, 65535).record(0, 5, 1, 1, 1).head(1, 2, 0).on("II: 65536 is not 0");
    // as it stands number 0 is no greater than the SNAP's: it begins there, and that is less than the SNAP's
    recovered(t, 65535, 0, 5, 0, 1);
    Picture torn = one().record(0, 5, 1, 1, 1).frame(0, 16, 1, 2, 1).record(0, 22, 1, 9, 9).head(1, 2, 1);
    recovered(torn.on("II: behind a torn one, whatever is behind it"), 1, 1, 5, 2, 0);
  }

  /** II: with a greater serial. */
  private static void goesOnByItsSerial() {
    recovered(two(1, 2).on("II: a like serial"), 2, 0, 23, 1, 0);
    recovered(two(2, 2).on("II: one greater"), 2, 1, 5, 2, 0);
    recovered(two(65535, 2).on("II: the greatest"), 2, 1, 5, 65535, 0);
    Picture less = new Picture().head(0, 300, 0).record(0, 5, 300, 1, 1).head(1, 299, 1);
    recovered(less.on("II: one less"), 1, 0, 12, 300, 0);
    recovered(two(2, 2).octet(1, 4, 255).on("II: its HEAD is not right"), 2, 0, 23, 1, 0);
  }

  /** II: it goes on in that of the greatest serial, of like ones in the first; and so on. */
  private static void goesOnInTheGreatest() {
    Picture picture = new Picture(4, 2, 16).head(0, 1, 0).record(0, 5, 1, 1, 1);
    recovered(picture.head(1, 5, 1).head(2, 6, 1).head(3, 4, 1).on("II: the greatest"), 1, 2, 5, 6, 0);
    recovered(picture.head(1, 5, 1).head(2, 6, 1).head(3, 6, 1).on("II: of like ones the first"), 1, 2, 5, 6, 0);
    recovered(picture.head(1, 6, 1).head(2, 6, 1).head(3, 6, 1).on("II: of like ones the first"), 1, 1, 5, 6, 0);
    Picture told = new Picture(4, 2, 16).head(0, 1, 0).record(0, 5, 1, 1, 1);
    for (int segment = 1; segment < 4; segment++) {
      told.head(segment, 4 + segment % 3, 1).record(segment, 5, 4 + segment % 3, segment, segment);
    }
    // serials 5, 6, 4 of one number, a record each: 4 and 5 are left out
    recovered(told.on("II: the others are left out"), 2, 2, 12, 6, 0);
    told = new Picture(4, 2, 16).head(3, 1, 0).record(3, 5, 1, 1, 1).head(0, 9, 1).record(0, 5, 9, 1, 1).head(1, 8, 1)
        .record(1, 5, 8, 1, 1).head(2, 7, 1).record(2, 5, 7, 1, 1);
    recovered(told.on("II: the first is the greatest"), 2, 0, 12, 9, 0);
    picture = new Picture(4, 2, 16).head(3, 1, 0).record(3, 5, 1, 3, 3).head(0, 2, 1).record(0, 5, 2, 0, 0).head(2, 3, 2)
        .record(2, 5, 3, 2, 2).head(1, 4, 3).record(1, 5, 4, 1, 1);
    Trial t = picture.on("II: all four");
    recovered(t, 4, 1, 12, 4, 0);
    t.due("recovers(0, 4)", t.of.recovers(0, 4), 4);
    picture = new Picture(4, 2, 16).head(0, 1, 0).head(1, 2, 0).head(2, 3, 0).head(3, 4, 0).snap(0);
    recovered(picture.on("II: it begins with the greatest, there is none to go on"), 0, 3, 5, 4, 0);
    picture = new Picture(4, 2, 16).snap(1).head(0, 9, 1).record(0, 5, 9, 1, 1).head(1, 10, 2).head(2, 11, 3).head(3, 12, 2);
    recovered(picture.on("II: 12 of the next number, 11 of none"), 2, 3, 5, 12, 0);
    picture = new Picture(4, 2, 16).snap(1).head(0, 9, 1).record(0, 5, 9, 1, 1).head(1, 10, 2).head(2, 11, 3).head(3, 8, 2);
    recovered(picture.on("II: 10 of the next number, 11 of none"), 2, 1, 5, 10, 1);
  }

  /** II: Else it is WITHOUT GROUND, if there was no SEGMENT to begin with, or the next number is less than the SNAP's. */
  private static void withoutGroundLessThanTheSnaps() {
    recovered(one().record(0, 5, 1, 1, 1).snap(1).on("II: next and SNAP are like"), 1, 0, 12, 1, 0);
    recovered(one().record(0, 5, 1, 1, 1).snap(2).on("II: next is one less"), 2, 0, 5, 0, 1);
    recovered(one().record(0, 5, 1, 1, 1).snap(0).on("II: next is one more"), 1, 0, 12, 1, 0);
    recovered(new Picture().on("II: none to begin with"), 0, 0, 5, 0, 1);
    // the numbers of a segment that it goes on in count, too
    recovered(one().record(0, 5, 1, 1, 1).head(1, 2, 1).record(1, 5, 2, 1, 1).snap(2).on("II: one more"), 2, 1, 12, 2, 0);
  }

  /** II: nothing was read then, THE END is byte 5 of SEGMENT 0. */
  private static void withoutGroundNothingWasRead() {
    Picture picture = new Picture().snap(9).value(3, 33).head(1, 4, 7).record(1, 5, 4, 3, 1);
    Trial t = picture.octet(0, 7, 99).on("II: nothing was read");
    recovered(t, 9, 0, 5, 0, 1);
    t.due("value(3)", t.of.value(3), 33);
    t.due("recovers(0, 4)", t.of.recovers(0, 4), 1);
    t.due("FREE", t.of.segment(1, 2), 1);
    t.due("octetOf(0, 7), nothing being cut", t.of.octetOf(0, 7), 99);
    t.due("segment(1, 3)", t.of.segment(1, 3), 1);
  }

  /** II: DAMAGED, if there is a SEGMENT with a right HEAD of a greater serial. */
  private static void damagedByAGreaterSerial() {
    for (int number : new int[] {0, 1, 3, 4, 65535}) {
      Picture picture = new Picture().snap(2).head(0, 9, 2).head(1, 10, number);
      boolean begins = number <= 2;
      recovered(picture.on("II: serial 10 of number " + number), 2, 0, 5, begins ? 0 : 9, 1);
    }
    recovered(new Picture().snap(2).head(0, 9, 2).head(1, 9, 7).on("II: a like one"), 2, 0, 5, 9, 0);
    recovered(new Picture().snap(2).head(0, 9, 2).head(1, 8, 7).on("II: one less"), 2, 0, 5, 9, 0);
    recovered(new Picture().snap(2).head(0, 9, 2).head(1, 10, 7).octet(1, 0, 1).on("II: no right HEAD"), 2, 0, 5, 9, 0);
    recovered(new Picture(4, 2, 16).head(0, 9, 0).head(3, 10, 7).on("II: in the last one"), 0, 0, 5, 9, 1);
  }

  /** II: or in this one behind the byte where no right FRAME is, at any byte, one begins. */
  private static void damagedBehindTheByte() {
    // a frame of payload 1 has 5 bytes, so it fits at 6 to 11 and 16 to 27
    for (int at = 5; at <= 31; at++) {
      boolean fits = at <= 11 || at >= 16 && at <= 27;
      Picture picture = at <= 27 ? one().frame(0, at, 1, 4, 200) : one().octet(0, at, 200);
      recovered(picture.on("II: a FRAME at " + at), 0, 0, 5, 1, fits && at > 5 ? 1 : 0);
    }
    // the byte is that behind what is left of a block
    Picture four = one().record(0, 5, 1, 1, 1).frame(0, 16, 1, 4, 200);
    recovered(four.on("II: at the byte itself"), 1, 0, 12, 1, 0);
    four = one().record(0, 5, 1, 1, 1).frame(0, 17, 1, 4, 200);
    recovered(four.on("II: right behind it"), 1, 0, 12, 1, 1);
    // of a torn record it is where its next frame should be
    Picture torn = one().frame(0, 5, 1, 2, 1).frame(0, 10, 1, 1, 1, 1);
    recovered(torn.on("II: at the byte itself, behind KIND 2"), 0, 0, 5, 1, 0);
    torn = one().frame(0, 5, 1, 2, 1).frame(0, 11, 1, 1, 1);
    recovered(torn.on("II: right behind it, behind KIND 2"), 0, 0, 5, 1, 1);
    torn = one().frame(0, 5, 1, 2, 1).frame(0, 10, 1, 4, 1);
    recovered(torn.on("II: a last one of too small a record, at the byte itself"), 0, 0, 5, 1, 0);
    recovered(one().record(0, 5, 1, 16, 0).on("II: KEY 16 at the byte itself"), 0, 0, 5, 1, 0);
    recovered(one().record(0, 6, 1, 16, 0).on("II: KEY 16 behind it"), 0, 0, 5, 1, 1);
  }

  /** II: that is right but for what its KIND (1 .. 4), a RECORD tell. */
  private static void damagedWhateverTheKind() {
    for (int kind : new int[] {0, 1, 2, 3, 4, 5, 6, 255}) {
      int damaged = kind >= 1 && kind <= 4 ? 1 : 0;
      recovered(one().frame(0, 20, 1, kind, 1, 1, 1).on("II: KIND " + kind + " behind"), 0, 0, 5, 1, damaged);
    }
    recovered(one().frame(0, 20, 1, 1, 255).on("II: a RECORD of 1 byte behind"), 0, 0, 5, 1, 1);
    recovered(one().record(0, 20, 1, 99, 65535).on("II: KEY and VALUE too great behind"), 0, 0, 5, 1, 1);
    recovered(one().frame(0, 20, 1, 1).on("II: payload 0 behind"), 0, 0, 5, 1, 0);
    recovered(one().frame(0, 20, 1, 1, 1, 1, 1, 0, 0, 0, 0, 0).on("II: to the end behind"), 0, 0, 5, 1, 1);
    recovered(one().frame(0, 20, 1, 1, 1, 1, 1, 0, 0, 0, 0, 0, 0).on("II: beyond the end behind"), 0, 0, 5, 1, 0);
    recovered(one().frame(0, 8, 1, 1, 1, 1, 1, 0).on("II: to the block's end behind"), 0, 0, 5, 1, 1);
    recovered(one().frame(0, 8, 1, 1, 1, 1, 1, 0, 0).on("II: beyond the block's end behind"), 0, 0, 5, 1, 0);
    recovered(one().record(0, 20, 2, 1, 1).on("II: another serial behind"), 0, 0, 5, 1, 0);
    recovered(new Picture().head(0, 257, 0).record(0, 20, 1, 1, 1).on("II: serial 1 behind 257"), 0, 0, 5, 257, 1);
    recovered(one().record(0, 20, 1, 1, 1).octet(0, 20, 255).on("II: a wrong CHECK behind"), 0, 0, 5, 1, 0);
  }

  /** II: in this one: not in those that were read ahead of it, nor in others. */
  private static void damagedInThisOneAlone() {
    Picture ahead = one().record(0, 5, 1, 1, 1).record(0, 20, 1, 1, 1).head(1, 2, 1);
    recovered(ahead.on("II: in the one ahead"), 1, 1, 5, 2, 0);
    Picture other = one().head(1, 1, 9).record(1, 20, 1, 1, 1);
    recovered(other.on("II: in another of a like serial"), 0, 0, 5, 1, 0);
    recovered(one().record(1, 20, 1, 1, 1).on("II: in another without a HEAD"), 0, 0, 5, 1, 0);
  }

  /** II: Not DAMAGED, all bytes of the SEGMENT from THE END on become 0. */
  private static void notDamagedBecomes0() {
    Picture picture = one().record(0, 5, 1, 1, 1);
    for (int at = 12; at < 32; at++) {
      picture.octet(0, at, 100 + at).octet(1, at, 100 + at);
    }
    Trial t = picture.on("II: from THE END on");
    recovered(t, 1, 0, 12, 1, 0);
    t.octets(0, 9, 1, 0, 1);
    for (int at = 12; at < 32; at++) {
      t.due("octetOf(0, " + at + ")", t.of.octetOf(0, at), 0);
      t.due("octetOf(1, " + at + ")", t.of.octetOf(1, at), 100 + at);
    }
    t = one().record(0, 5, 1, 1, 1).octet(0, 14, 77).record(0, 20, 1, 1, 1).octet(0, 31, 99).on("II: DAMAGED none does");
    recovered(t, 1, 0, 12, 1, 1);
    t.octets(0, 14, 77);
    t.octets(0, 31, 99);
    t.due("recovers() leaves it", t.of.recovers(0, 1), 1);
    t.octets(0, 14, 77);
  }

  /** II: DAMAGED it HALTS: nothing is appended, no GROUP closes. */
  private static void halted() {
    Trial t = new Trial("II: HALTED");
    Twins.halted(t.of);
    t.due("append", t.of.append(1, 1, 1), -1);
    t.due("ticks(100)", t.of.ticks(100), 0);
    t.due("has(2)", t.of.has(2), 102);
    t.due("has(6)", t.of.has(6), 0);
    t.due("flip back", t.of.flip(0, 18), 3);
    t.due("has(14), till a CRASH finds it", t.of.has(14), 1);
    t.due("crash(0)", t.of.crash(0), 3);
    t.due("has(14)", t.of.has(14), 0);
    t.due("append", t.of.append(1, 1, 1), 3);
    t = new Trial("II: not HALTED, though a CRASH would");
    Twins.busy(t.of);
    t.of.flip(0, 0);
    t.due("has(14)", t.of.has(14), 0);
    t.due("append", t.of.append(1, 1, 1), 5);
  }

  /** II: What was read is ACKNOWLEDGED, the next number is behind it (WITHOUT GROUND the SNAP's). */
  private static void acknowledged() {
    Trial t = two(2, 2).on("II: ACKNOWLEDGED");
    t.due("has(4)", t.of.has(4), 2);
    t.due("when(1)", t.of.when(1), 0);
    t.due("when(2)", t.of.when(2), -1);
    t.due("waits(0, 1)", t.of.waits(0, 1), false);
    t.due("append", t.of.append(1, 1, 1), 2);
    t = new Picture().snap(40).on("II: the SNAP's");
    t.due("has(3)", t.of.has(3), 40);
    t.due("has(4)", t.of.has(4), 40);
    t.due("when(39)", t.of.when(39), 0);
    t.due("when(40)", t.of.when(40), -1);
    // one that was on its way as a whole is ACKNOWLEDGED by the CRASH, its WAITER is gone
    t = new Trial("II: by a CRASH");
    Twins.busy(t.of);
    t.of.crash(20);
    t.due("has(4)", t.of.has(4), 4);
    t.due("value(4)", t.of.value(4), 40);
    t.due("has(11)", t.of.has(11), 1);
    t.due("waiter(1)", t.of.waiter(1), -1);
  }

  /** II: all bytes from there on become 0, and all of other SEGMENTS with a right HEAD of a greater serial (than place(2)). */
  private static void givenUp() {
    Picture picture = new Picture(4, 2, 16).head(0, 6, 0).record(0, 5, 6, 1, 1).octet(0, 13, 50).octet(0, 31, 51);
    picture.head(1, 7, 9).octet(1, 30, 52).head(2, 6, 9).octet(2, 30, 53).octet(3, 0, 9, 9, 9, 9, 9).octet(3, 30, 54);
    Trial t = picture.on("II: GIVEN UP");
    recovered(t, 1, 0, 12, 6, 1);
    int head = 0;
    for (int at = 0; at < 5; at++) {
      head += t.of.octetOf(1, at) != 0 ? 1 : 0;
    }
    t.due("giveUp()", t.of.giveUp(), 2 + head + 1);
    recovered(t, 1, 0, 12, 6, 0);
    for (int at = 12; at < 32; at++) {
      t.due("octetOf(0, " + at + ")", t.of.octetOf(0, at), 0);
    }
    for (int at = 0; at < 32; at++) {
      t.due("octetOf(1, " + at + ")", t.of.octetOf(1, at), 0);
    }
    t.due("octetOf(0, 9)", t.of.octetOf(0, 9), 1);
    t.octets(2, 30, 53);
    t.octets(3, 30, 54);
    t.due("segment(2, 0), a like serial", t.of.segment(2, 0), 6);
    t.octets(3, 0, 9, 9, 9, 9, 9);
    picture = new Picture(4, 2, 16).snap(5).head(0, 600, 5).head(1, 599, 0).octet(1, 9, 1).head(2, 65535, 7).head(3, 601, 9);
    t = picture.on("II: GIVEN UP by serials");
    recovered(t, 5, 0, 5, 600, 1);
    t.of.giveUp();
    int[] serials = {600, 599, -1, -1};
    for (int segment = 0; segment < 4; segment++) {
      t.due("segment(" + segment + ", 0)", t.of.segment(segment, 0), serials[segment]);
    }
    t.octets(1, 9, 1);
    t.due("crash(0)", t.of.crash(0), 5);
    t.due("has(14), there is no more damage", t.of.has(14), 0);
    t = new Trial("II: HALTED no more");
    Twins.halted(t.of);
    t.of.giveUp();
    t.due("append", t.of.append(1, 1, 1), 1);
    t.due("ticks", t.of.ticks(1), 0);
    t.due("has(6), 4 left over and 8", t.of.has(6), 12);
  }

  /** II: WITHOUT GROUND all bytes become 0, SEGMENT 0 is OPENED with the next number. */
  private static void givenUpWithoutGround() {
    Picture picture = new Picture(4, 2, 16).snap(259).value(2, 7).head(1, 956, 300).octet(2, 31, 1).octet(3, 0, 1, 2, 3, 4, 5);
    Trial t = picture.on("II: GIVEN UP WITHOUT GROUND");
    recovered(t, 259, 0, 5, 0, 1);
    int count = 0;
    for (int at = 0; at < 128; at++) {
      count += t.of.octetOf(at / 32, at % 32) != 0 ? 1 : 0;
    }
    t.due("giveUp()", t.of.giveUp(), count);
    recovered(t, 259, 0, 5, 957, 0);
    t.octets(0, 0, 3, 189, 1, 3, Trial.check(7, new int[] {3, 189, 1, 3}, 0, 4));
    for (int at = 5; at < 128; at++) {
      t.due("byte " + at, t.of.octetOf(at / 32, at % 32), 0);
    }
    t.due("value(2)", t.of.value(2), 7);
    t.due("append", t.of.append(2, 8, 16), 259);
    t.of.append(2, 9, 16);
    t.of.ticks(2);
    t.due("segment(1, 0)", t.of.segment(1, 0), 958);
    t.due("crash(0)", t.of.crash(0), 261);
    t.due("value(2)", t.of.value(2), 9);
  }

  /** II: the SNAP has the TABLE, its number is the first one not ACKNOWLEDGED. */
  private static void snapHasTheTable() {
    Trial t = new Trial("II: the SNAP");
    Twins.busy(t.of);
    t.of.ticks(3);
    t.due("snap()", t.of.snap(), 4);
    t.of.ticks(3);
    t.of.flip(0, 0);
    t.of.flip(1, 0);
    t.due("crash(0), WITHOUT GROUND", t.of.crash(0), 4);
    t.due("place(2)", t.of.place(2), 0);
    int[] values = {-1, 10, 20, 30, 40, -1};
    for (int key = 0; key < values.length; key++) {
      t.due("value(" + key + ")", t.of.value(key), values[key]);
    }
  }
}
