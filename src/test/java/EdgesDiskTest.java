/** The edges of part II of "Terms" but for crashes, a test a sentence: checks, frames, segments opened, ticks, scars. */
public final class EdgesDiskTest {
  public static void main(String[] args) {
    atFirst();
    checkModulo251();
    payloadModulo256();
    fewerThan5BytesOfABlock();
    fewerThan5BytesInTheNextSegment();
    asMuchAsItsBlockHasRoomFor();
    inOneSegment();
    bytesThereStayAsTheyAre();
    theFreeOneOfLeastNumber();
    oneMoreThanTheGreatest();
    numberModulo65536();
    serialsBeyond255And65535();
    otherBytesStay();
    freeByThePlace();
    freeByTheSnap();
    freeWhileAGroupIsLaid();
    freeAsItWasRead();
    bytesOneAfterTheOther();
    takes1To99();
    aTickLess();
    acknowledgedInTheirOrder();
    closesInTheSameTick();
    whatWaitsBehindIt();
    ifNoneAreOnTheirWayAndSomeWait();
    ifThereIsRoom();
    releasedInTheirOrder();
    belowNoise();
    drawsOfSegmentsAndBytes();
    flippedAheadOfTheTick();
    scars();
    Trial.close();
  }

  private static Trial told(String name, String shape, String text) {
    return Trial.told(name, shape + "closes all;takes 1;" + text);
  }

  /** II: At first all bytes are 0, but SEGMENT 0 is OPENED by serial 1, THE PLACE is behind its HEAD, SNAP 0, nothing in it. */
  private static void atFirst() {
    for (String shape : new String[] {Twins.SMALL, Twins.GREAT, "journal 3 blocks 4 bytes 17;"}) {
      Trial t = told("II: at first", shape, "");
      int[] head = {0, 1, 0, 0, 74};
      for (int segment = 0; segment < 4; segment++) {
        Trial one = told("II: at first", shape, "");
        int size = segment < one.of.has(0) ? one.of.has(1) : 0;
        for (int at = 0; at < size; at++) {
          one.due("octetOf(" + segment + ", " + at + ")", one.of.octetOf(segment, at), segment == 0 && at < 5 ? head[at] : 0);
        }
      }
      place(t, 0, 5, 1);
      t.due("has(8)", t.of.has(8), 0);
      t.due("recovers(0, 4)", t.of.recovers(0, 4), 0);
    }
  }

  private static void place(Trial t, int segment, int at, int serial) {
    t.due("place(0)", t.of.place(0), segment);
    t.due("place(1)", t.of.place(1), at);
    t.due("place(2)", t.of.place(2), serial);
  }

  /** II: c is 7, by each of them it becomes (3 c + it) mod 251. */
  private static void checkModulo251() {
    boolean[] met = new boolean[251];
    for (int serial = 1; serial <= 300; serial++) {
      int check = Trial.check(7, new int[] {serial >> 8, serial & 255, 0, 9}, 0, 4);
      if (met[check] || check > 4 && check < 249) {
        continue;
      }
      met[check] = true;
      Trial t = new Picture().head(1, serial, 9).on("II: a CHECK of " + check);
      t.due("segment(1, 0)", t.of.segment(1, 0), serial);
      t = new Picture().head(1, serial, 9).octet(1, 4, (check + 1) % 256).on("II: one more than " + check);
      t.due("segment(1, 0)", t.of.segment(1, 0), -1);
      t = new Picture().head(1, serial, 9).octet(1, 4, (check + 255) % 256).on("II: one less than " + check);
      t.due("segment(1, 0)", t.of.segment(1, 0), -1);
      if (check < 5) {
        t = new Picture().head(1, serial, 9).octet(1, 4, check + 251).on("II: 251 more than " + check);
        t.due("segment(1, 0)", t.of.segment(1, 0), -1);
      }
    }
    Trial t = new Trial("II: both ends were met");
    t.holds("0 and 250", met[0] && met[250]);
  }

  /** II: KEY, VALUE (the higher first), then SIZE bytes, the i-th (from 0 on) being (VALUE + 7 i) mod 256. */
  private static void payloadModulo256() {
    for (int value : new int[] {0, 3, 4, 255, 256, 999}) {
      Trial t = told("II: payload of " + value, Twins.GREAT, "put 15 " + value + " size 40;");
      t.of.ticks(2);
      int[] wanted = new int[43];
      wanted[0] = 15;
      wanted[1] = value / 256;
      wanted[2] = value % 256;
      for (int i = 0; i < 40; i++) {
        wanted[3 + i] = (value + 7 * i) % 256;
      }
      for (int i = 0; i < 43; i++) {
        t.octets(0, i < 23 ? 9 + i : 36 + i - 23, wanted[i]);
      }
      t.due("value(15)", t.of.value(15), value);
    }
  }

  /** II: Where fewer than 5 bytes of a BLOCK are left, these are 0 (written as the next FRAME is), and it goes on at the next. */
  private static void fewerThan5BytesOfABlock() {
    for (int left = 0; left <= 12; left++) {
      Trial t = told("II: " + left + " bytes left of a block", "journal 2 blocks 2 bytes 24;", "put 1 1 size " + (12 - left) + ";");
      for (int at = 24 - left; at < 24; at++) {
        t.of.flip(0, at);
      }
      t.of.ticks(2);
      int begin = 24 - left;
      for (int at = begin; at < 24; at++) {
        t.due("byte " + at + " ahead of the next FRAME", t.of.octetOf(0, at), 255);
      }
      t.due("has(10)", t.of.has(10), left);
      place(t, 0, begin, 1);
      t.of.append(2, 2, 0);
      t.of.ticks(1);
      boolean goesOn = left < 5;
      boolean splits = left == 5 || left == 6;
      t.due("has(6)", t.of.has(6), goesOn ? left + 7 : splits ? 11 : 7);
      place(t, 0, goesOn ? 31 : splits ? 24 + 4 + 7 - left : begin + 7, 1);
      t.of.ticks(1);
      t.due("begin", t.of.frame(0, 1, 0), goesOn ? 24 : begin);
      t.due("KIND", t.of.frame(0, 1, 1), splits ? 2 : 1);
      t.due("payload", t.of.frame(0, 1, 2), splits ? left - 4 : 3);
      t.due("frames", t.of.segment(0, 3), splits ? 3 : 2);
      for (int at = begin; at < 24 && goesOn; at++) {
        t.due("byte " + at, t.of.octetOf(0, at), 0);
      }
      t.due("has(10), of what is left", t.of.has(10), left < 7 ? 0 : left - 7);
    }
  }

  /** II: these are 0, in whichever SEGMENT they are. */
  private static void fewerThan5BytesInTheNextSegment() {
    Trial t = told("II: left over in the next segment", "journal 4 blocks 2 bytes 16;", "put 1 1 size 16;".repeat(3) + "put 1 1 size 0;");
    t.of.ticks(2);
    for (int at = 12; at < 16; at++) {
      t.of.flip(3, at);
      t.of.flip(0, at);
    }
    t.of.append(1, 1, 0);
    t.of.ticks(2);
    t.octets(3, 12, 0, 0, 0, 0);
    t.due("has(10)", t.of.has(10), 4);
    t.due("frame(3, 1, 0)", t.of.frame(3, 1, 0), 16);
  }

  /** II: a FRAME has as much payload as its BLOCK has room for; KIND 1 the only one, 2 the first, 3 one between, 4 the last. */
  private static void asMuchAsItsBlockHasRoomFor() {
    // blocks of 16: 7 bytes of payload behind the head, 12 in each of the next
    int[] sizes = {3, 4, 5, 15, 16, 17, 27, 28, 29, 40};
    int[][] payloads = {{6}, {7}, {7, 1}, {7, 11}, {7, 12}, {7, 12, 1}, {7, 12, 11}, {7, 12, 12}, {7, 12, 12, 1}, {7, 12, 12, 12}};
    for (int i = 0; i < sizes.length; i++) {
      Trial t = told("II: FRAMES of size " + sizes[i], "journal 2 blocks 4 bytes 16;", "put 1 1 size " + sizes[i] + ";");
      t.of.ticks(2);
      int count = payloads[i].length;
      t.due("frames", t.of.segment(0, 3), count);
      for (int k = 0; k < count; k++) {
        t.due("begin of " + k, t.of.frame(0, k, 0), k == 0 ? 5 : 16 * k);
        t.due("KIND of " + k, t.of.frame(0, k, 1), count == 1 ? 1 : k == 0 ? 2 : k == count - 1 ? 4 : 3);
        t.due("payload of " + k, t.of.frame(0, k, 2), payloads[i][k]);
      }
    }
  }

  /** II: A RECORD lies in one SEGMENT; where it has no room any more in that, the next SEGMENT is OPENED. */
  private static void inOneSegment() {
    // 12 bytes of payload are just the second block
    Trial t = told("II: just to the end", Twins.SMALL, "put 1 1 size 0;put 1 1 size 9;");
    t.of.ticks(1);
    place(t, 0, 32, 1);
    t.due("has(6)", t.of.has(6), 7 + 4 + 16);
    t = told("II: one byte beyond the end", Twins.SMALL, "put 1 1 size 0;put 1 1 size 10;");
    t.of.ticks(1);
    place(t, 1, 16 + 4 + 6, 2);
    t.due("has(6)", t.of.has(6), 7 + 5 + 11 + 10);
    t = told("II: behind the very end", Twins.SMALL, "put 1 1 size 16;put 1 1 size 0;");
    t.of.ticks(1);
    place(t, 1, 12, 2);
    // of 6 bytes left of the last block there is room for 2 of a payload of 3
    t = told("II: its first frame had room", Twins.SMALL, "put 1 1 size 13;put 1 1 size 0;");
    t.of.ticks(1);
    t.due("has(6)", t.of.has(6), 11 + 13 + 5 + 7);
    place(t, 1, 12, 2);
    t = told("II: its one frame has room", Twins.SMALL, "put 1 1 size 9;put 1 1 size 0;");
    t.of.ticks(1);
    place(t, 0, 32, 1);
  }

  /** II: the bytes there stay as they are. */
  private static void bytesThereStayAsTheyAre() {
    Trial t = told("II: behind the last one", Twins.SMALL, "put 1 1 size 0;put 1 1 size 10;");
    for (int at = 12; at < 32; at++) {
      t.of.flip(0, at);
    }
    t.of.ticks(2);
    t.due("place(0)", t.of.place(0), 1);
    for (int at = 12; at < 32; at++) {
      t.due("octetOf(0, " + at + ")", t.of.octetOf(0, at), 255);
    }
    t.due("has(10)", t.of.has(10), 20);
  }

  /** II: the FREE one of least number. */
  private static void theFreeOneOfLeastNumber() {
    Trial t = told("II: of least number", "journal 4 blocks 2 bytes 16;", "");
    int[] places = {0, 1, 2, 0, 1, 2, 3};
    for (int i = 0; i < places.length; i++) {
      t.of.append(1, i, 16);
      t.of.ticks(2);
      place(t, places[i], 32, i + 1);
      if (i == 2) {
        free(t, 0, 0, 0, 1);
        t.of.snap();
        free(t, 1, 1, 0, 1);
      }
    }
    free(t, 0, 0, 0, 0);
    t.due("room(16)", t.of.room(16), 0);
    t = told("II: of least number, all at once", "journal 4 blocks 2 bytes 16;", "put 1 1 size 16;".repeat(4));
    t.of.ticks(2);
    for (int segment = 0; segment < 4; segment++) {
      t.due("segment(" + segment + ", 0)", t.of.segment(segment, 0), segment + 1);
    }
  }

  /** II: one more than the greatest by which one was OPENED so far (one that was lost by a CRASH counts, too). */
  private static void oneMoreThanTheGreatest() {
    Trial t = told("II: lost by a CRASH", Twins.SMALL, "put 1 1 size 16;");
    t.of.ticks(2);
    for (int serial = 2; serial <= 4; serial++) {
      t.of.append(1, 1, 16);
      t.of.ticks(1);
      place(t, 1, 32, serial);
      t.of.crash(serial == 3 ? 4 : 0);
      place(t, 0, 32, 1);
    }
    t.of.append(1, 1, 16);
    t.of.ticks(1);
    place(t, 1, 32, 5);
    t.of.undo();
    t.of.ticks(1);
    place(t, 1, 32, 5);
    t = told("II: given up", Twins.SMALL, "put 1 1 size 16;put 1 1 size 16;");
    t.of.ticks(2);
    t.of.flip(0, 5);
    t.of.crash(0);
    t.due("giveUp()", t.of.giveUp() > 0, true);
    t.of.append(1, 1, 16);
    t.of.append(1, 1, 16);
    t.of.ticks(1);
    place(t, 1, 32, 3);
    t = told("II: two in one group", "journal 3 blocks 2 bytes 16;", "put 1 1 size 16;put 1 1 size 16;put 1 1 size 16;");
    t.of.ticks(2);
    for (int segment = 0; segment < 3; segment++) {
      t.due("segment(" + segment + ", 0)", t.of.segment(segment, 0), segment + 1);
      t.due("segment(" + segment + ", 1)", t.of.segment(segment, 1), segment);
    }
  }

  /** II: its HEAD is written (serial, number modulo 65536). */
  private static void numberModulo65536() {
    for (int number : new int[] {254, 255, 256, 65533, 65534, 65535}) {
      Trial t = new Picture().snap(number).head(0, 1, number).on("II: number " + (number + 1));
      t.of.append(1, 1, 16);
      t.of.append(1, 1, 16);
      t.of.ticks(2);
      t.due("has(4)", t.of.has(4), number + 2);
      t.due("segment(1, 1)", t.of.segment(1, 1), (number + 1) % 65536);
      t.octets(1, 2, (number + 1) / 256 % 256, (number + 1) % 256);
    }
  }

  /** II: serial (two bytes, the higher first), in a FRAME modulo 256. */
  private static void serialsBeyond255And65535() {
    for (int serial : new int[] {254, 255, 256, 511, 65534}) {
      Trial t = new Picture().head(0, serial, 0).on("II: serial " + (serial + 1));
      t.of.append(1, 1, 16);
      t.of.append(1, 1, 16);
      t.of.ticks(2);
      place(t, 1, 32, serial + 1);
      t.due("segment(0, 0)", t.of.segment(0, 0), serial);
      t.due("segment(1, 0)", t.of.segment(1, 0), serial + 1);
      t.octets(0, 8, serial % 256);
      t.octets(1, 0, (serial + 1) / 256, (serial + 1) % 256);
      t.octets(1, 8, (serial + 1) % 256);
      t.due("frames", t.of.segment(1, 3), 2);
      t.due("crash(0)", t.of.crash(0), 2);
      place(t, 1, 32, serial + 1);
    }
    // as the document says most plainly: the serial goes on, its two bytes are those of it modulo 65536, so no right head
    Trial t = new Picture().head(0, 65535, 0).on("II: serial 65536");
    t.of.append(1, 1, 16);
    t.of.append(1, 1, 16);
    t.of.ticks(2);
    t.due("place(2)", t.of.place(2), 65536);
    t.octets(1, 0, 0, 0, 0, 1);
    t.due("segment(1, 0)", t.of.segment(1, 0), -1);
  }

  /** II: its other bytes stay as they were. */
  private static void otherBytesStay() {
    Trial t = told("II: of an OPENED one", Twins.SMALL, "put 1 1 size 16;put 1 1 size 0;");
    for (int at = 0; at < 32; at++) {
      t.of.flip(1, at);
    }
    t.of.ticks(2);
    t.octets(1, 0, 0, 2, 0, 1);
    for (int at = 12; at < 32; at++) {
      t.due("octetOf(1, " + at + ")", t.of.octetOf(1, at), 255);
    }
    t.due("has(10)", t.of.has(10), 20);
  }

  /** II: FREE is a SEGMENT in which THE PLACE is not. */
  private static void freeByThePlace() {
    Trial t = told("II: THE PLACE", Twins.SMALL, "put 1 1 size 16;");
    free(t, 0, 1);
    t.of.ticks(2);
    t.of.snap();
    free(t, 0, 1);
    t.of.append(1, 1, 0);
    t.of.ticks(1);
    free(t, 1, 0);
    t.of.crash(0);
    free(t, 0, 1);
    t = new Trial("II: WITHOUT GROUND");
    Twins.groundless(t.of);
    free(t, 0, 1);
  }

  private static void free(Trial t, int... wanted) {
    for (int segment = 0; segment < wanted.length; segment++) {
      t.due("FREE " + segment, t.of.segment(segment, 2), wanted[segment]);
    }
  }

  /** II: no byte is on its way, and no RECORD with the number of the SNAP or a greater one lies. */
  private static void freeByTheSnap() {
    Trial t = told("II: the number of the SNAP", "journal 3 blocks 2 bytes 16;", "put 1 1 size 0;");
    t.of.ticks(2);
    t.of.append(1, 2, 0);
    t.of.append(1, 3, 16);
    t.of.ticks(1);
    t.due("place(0)", t.of.place(0), 1);
    t.due("snap(), of the one on its way in segment 0", t.of.snap(), 1);
    free(t, 0, 0, 1);
    t.of.ticks(1);
    free(t, 0, 0, 1);
    t.due("snap(), one beyond", t.of.snap(), 3);
    free(t, 1, 0, 1);
    t.of.undo();
    free(t, 0, 0, 1);
    // read there: records 0 and 1 in segment 0, the SNAP's number being that of the latter
    t = new Picture().snap(1).head(0, 1, 0).record(0, 5, 1, 1, 1).record(0, 16, 1, 1, 2).head(1, 2, 2).on("II: read there");
    place(t, 1, 5, 2);
    free(t, 0, 0);
    t = new Picture().snap(2).head(0, 1, 0).record(0, 5, 1, 1, 1).record(0, 16, 1, 1, 2).head(1, 2, 2).on("II: not read");
    place(t, 1, 5, 2);
    free(t, 1, 0);
    t = new Picture().snap(0).head(0, 1, 0).record(0, 5, 1, 1, 1).head(1, 2, 1).on("II: number 0");
    place(t, 1, 5, 2);
    free(t, 0, 0);
    t = new Picture(4, 2, 16).head(3, 1, 0).record(3, 5, 1, 1, 1).head(2, 2, 1).record(2, 5, 2, 1, 1).head(1, 3, 2)
        .record(1, 5, 3, 1, 1).head(0, 4, 3).on("II: read in all four");
    place(t, 0, 5, 4);
    free(t, 0, 0, 0, 0);
    t = new Picture().snap(0).head(0, 1, 0).head(1, 2, 0).on("II: no record lies there");
    place(t, 1, 5, 2);
    free(t, 1, 0);
  }

  /** II: while a GROUP is laid, and RECORDS for room() are, nor was when that began, nor has been since; behind that now alone. */
  private static void freeWhileAGroupIsLaid() {
    Trial t = told("II: where it was when that began", "journal 3 blocks 2 bytes 16;", "put 1 1 size 16;");
    t.of.ticks(2);
    t.of.snap();
    t.due("room(16), 1 and 2", t.of.room(16), 2);
    t.of.append(1, 2, 16);
    t.of.append(1, 3, 16);
    t.of.append(1, 4, 16);
    t.of.ticks(1);
    t.due("has(5), the third having no room", t.of.has(5), 3);
    place(t, 0, 32, 1);
    t.due("rule(3, 0)", t.of.rule(3, 0), -1);
    // one behind the other: the first leaves segment 0, which is FREE then
    t.due("rule(1, 0)", t.of.rule(1, 0), 4);
    t.due("rule(2, 0)", t.of.rule(2, 0), 3);
    t = told("II: behind that", "journal 3 blocks 2 bytes 16;", "put 1 1 size 16;");
    t.of.ticks(2);
    t.of.snap();
    t.of.append(1, 2, 16);
    t.of.ticks(1);
    free(t, 1, 0, 1);
    t.due("room(16), 0 and 2", t.of.room(16), 2);
    t.of.append(1, 3, 16);
    t.of.append(1, 4, 16);
    t.of.ticks(1);
    place(t, 2, 32, 4);
    free(t, 0, 0, 0);
  }

  /** II: it was laid there since all was last RECOVERED, or read there then. */
  private static void freeAsItWasRead() {
    Trial t = told("II: lost ones lie there no more", Twins.SMALL, "put 1 1 size 16;put 1 1 size 16;");
    t.of.ticks(1);
    free(t, 0, 0);
    t.of.crash(0);
    free(t, 0, 1);
    t.of.undo();
    t.of.crash(27 + 5 + 4);
    free(t, 0, 0);
    t.due("place(0), its HEAD having arrived", t.of.place(0), 1);
    t = new Trial("II: WITHOUT GROUND nothing is read");
    Twins.tell(t.of, Twins.SMALL + "closes all;takes 1;put 1 1 size 16;put 1 1 size 16;");
    t.of.ticks(2);
    free(t, 0, 0);
    t.of.flip(0, 0);
    t.of.crash(0);
    free(t, 0, 1);
  }

  /** II: their bytes are on their way, one after the other (each OPENED HEAD ahead of what lies behind it). */
  private static void bytesOneAfterTheOther() {
    Trial done = told("II: in the end", Twins.SMALL, "put 1 257 size 0;put 2 300 size 0;put 3 400 size 0;put 4 500 size 16;");
    done.of.ticks(2);
    int[] way = new int[64];
    int count = 0;
    for (int at = 5; at < 30; at++) {
      way[count++] = at;
    }
    for (int at = 32; at < 64; at++) {
      way[count++] = at;
    }
    int[] then = disk(done);
    for (int k = 0; k <= count; k++) {
      Trial t = told("II: one after the other", Twins.SMALL, "put 1 257 size 0;put 2 300 size 0;put 3 400 size 0;put 4 500 size 16;");
      for (int at = 12; at < 16; at++) {
        t.of.flip(0, at);
      }
      t.of.ticks(1);
      t.due("has(6)", t.of.has(6), count);
      int[] before = disk(t);
      t.due("crash(" + k + ")", t.of.crash(k) >= 0, true);
      int segment = t.of.place(0);
      int end = segment * 32 + t.of.place(1);
      int[] now = disk(t);
      for (int i = 0; i < count; i++) {
        boolean cut = way[i] >= end && way[i] / 32 == segment;
        t.due("byte " + way[i] + " by " + k, now[way[i]], cut ? 0 : i < k ? then[way[i]] : before[way[i]]);
      }
    }
  }

  private static int[] disk(Trial t) {
    int[] octets = new int[64];
    for (int at = 0; at < 64; at++) {
      octets[at] = t.of.octetOf(at / 32, at % 32);
    }
    return octets;
  }

  /** II: for as many TICKS as the SUM of takes tells, 1 .. 99 (below is 1, above 99). */
  private static void takes1To99() {
    String[] sums = {"0-9999*9999", "0-1", "0", "1", "2", "98", "99", "100", "101", "9999*9999"};
    int[] ticks = {1, 1, 1, 1, 2, 98, 99, 99, 99, 99};
    for (int i = 0; i < sums.length; i++) {
      Trial t = Trial.told("II: takes " + sums[i], Twins.SMALL + "closes all;put 1 1 size 0;takes " + sums[i] + ";");
      t.of.ticks(1);
      t.due("has(7)", t.of.has(7), ticks[i]);
      if (ticks[i] > 1) {
        t.of.ticks(ticks[i] - 1);
        t.due("has(4)", t.of.has(4), 0);
        t.due("has(7)", t.of.has(7), 1);
      }
      t.of.ticks(1);
      t.due("has(4)", t.of.has(4), 1);
      t.due("has(7)", t.of.has(7), 0);
    }
  }

  /** II: that lasts a TICK less; is it over, they all are on the disk. */
  private static void aTickLess() {
    Trial t = Trial.told("II: till it is over", Twins.SMALL + "closes all;takes 3;put 1 1 size 0;");
    for (int left = 3; left >= 1; left--) {
      t.of.ticks(1);
      t.due("has(7)", t.of.has(7), left);
      t.due("has(6)", t.of.has(6), 7);
      t.due("octetOf(0, 6), none being on the disk", t.of.octetOf(0, 6), 0);
      t.due("value(1)", t.of.value(1), -1);
    }
    t.of.ticks(1);
    t.due("has(6)", t.of.has(6), 0);
    t.octets(0, 6, 1, 3, 1, 1, 0, 1);
    t.due("value(1)", t.of.value(1), 1);
  }

  /** II: their RECORDS are ACKNOWLEDGED, in their order the TABLE has their VALUES. */
  private static void acknowledgedInTheirOrder() {
    Trial t = told("II: in their order", Twins.GREAT, "put 1 9 size 0;put 1 8 size 0;put 2 7 size 0;put 1 0 size 0;put 2 999 size 0;");
    t.of.ticks(2);
    t.due("value(1)", t.of.value(1), 0);
    t.due("value(2)", t.of.value(2), 999);
    t.due("has(4)", t.of.has(4), 5);
  }

  /** II: Then, if none are on their way: in the TICK in which that is over the next GROUP closes. */
  private static void closesInTheSameTick() {
    Trial t = told("II: in the same TICK", Twins.SMALL, "put 1 1 size 0;");
    t.of.ticks(1);
    t.of.append(1, 2, 0);
    t.of.ticks(1);
    t.due("has(4)", t.of.has(4), 1);
    t.due("has(6)", t.of.has(6), 4 + 7);
    t = Trial.told("II: not ahead of it", Twins.SMALL + "closes all;takes 2;put 1 1 size 0;");
    t.of.ticks(1);
    t.of.append(1, 2, 0);
    t.of.ticks(1);
    t.due("has(4)", t.of.has(4), 0);
    t.due("has(5)", t.of.has(5), 1);
  }

  /** II: APPENDED a RECORD waits, behind all that wait: what is on its way ahead of it leaves it as it is. */
  private static void whatWaitsBehindIt() {
    Trial t = Trial.told("II: behind what is on its way", Twins.GREAT + "closes tick=0 or age>3;takes 3;put 1 1 size 0;put 2 2 size 0;");
    t.of.ticks(2);
    t.of.append(3, 30, 4);
    t.of.ticks(1);
    t.of.append(5, 50, 6);
    for (int tick = 3; tick <= 5; tick++) {
      int[] wanted = {2, 3, 30, 4, 3, 5, 50, 6};
      for (int what = 0; what < 8; what++) {
        t.due("waiting(" + what / 4 + ", " + what % 4 + ")", t.of.waiting(what / 4, what % 4), wanted[what]);
      }
      t.due("has(6) at tick " + tick, t.of.has(6), tick == 3 ? 14 : 0);
      t.of.ticks(1);
    }
    t.due("has(5), the first of them being 4 ticks old at tick 6", t.of.has(5), 2);
    t.of.ticks(1);
    t.due("has(5)", t.of.has(5), 0);
    t.of.ticks(3);
    t.due("value(3)", t.of.value(3), 30);
    t.due("value(5)", t.of.value(5), 50);
  }

  /** II: if none are on their way, some wait, and the TEST of closes holds, the GROUP closes. */
  private static void ifNoneAreOnTheirWayAndSomeWait() {
    Trial t = told("II: none wait", Twins.SMALL, "");
    t.of.ticks(3);
    t.due("has(6)", t.of.has(6), 0);
    t.due("has(7)", t.of.has(7), 0);
    t = Trial.told("II: the TEST holds not", Twins.SMALL + "closes records>1;takes 1;put 1 1 size 0;");
    t.of.ticks(3);
    t.due("has(5)", t.of.has(5), 1);
    t.of.append(1, 1, 0);
    t.of.ticks(1);
    t.due("has(5), all that wait", t.of.has(5), 0);
  }

  /** II: all that wait are laid from THE PLACE on, if there is room. */
  private static void ifThereIsRoom() {
    Trial t = told("II: no room for the last of three", Twins.SMALL, "put 1 1 size 16;put 1 2 size 16;put 1 3 size 0;");
    int[] before = disk(t);
    t.of.ticks(5);
    t.due("has(5)", t.of.has(5), 3);
    t.due("has(6)", t.of.has(6), 0);
    t.due("has(7)", t.of.has(7), 0);
    place(t, 0, 5, 1);
    free(t, 0, 1);
    for (int at = 0; at < 64; at++) {
      t.due("byte " + at, t.of.octetOf(at / 32, at % 32), before[at]);
    }
    t = told("II: just room for three", Twins.SMALL, "put 1 1 size 0;put 1 2 size 9;put 1 3 size 16;");
    t.of.ticks(1);
    t.due("has(5)", t.of.has(5), 0);
    place(t, 1, 32, 2);
    t = told("II: no room, serials are not used up", Twins.SMALL, "put 1 1 size 16;put 1 2 size 0;put 1 3 size 16;");
    t.of.ticks(9);
    t.due("has(5)", t.of.has(5), 3);
    t.of.crash(0);
    t.of.append(1, 1, 16);
    t.of.append(1, 1, 16);
    t.of.ticks(1);
    place(t, 1, 32, 2);
  }

  /** II: WAITERS are RELEASED: by numbers of RECORDS, of one RECORD as they began to wait. */
  private static void releasedInTheirOrder() {
    Trial t = told("II: RELEASED", Twins.GREAT, "put 1 1 size 0;put 1 1 size 0;put 1 1 size 0;");
    int[][] waits = {{7, 2}, {0, 1}, {3, 0}, {5, 2}, {1, 0}, {6, 1}, {2, 2}, {4, 0}};
    for (int[] pair : waits) {
      t.due("waits", t.of.waits(pair[0], pair[1]), true);
    }
    t.due("ticks(2)", t.of.ticks(2), 8);
    int[][] wanted = {{3, 0}, {1, 0}, {4, 0}, {0, 1}, {6, 1}, {7, 2}, {5, 2}, {2, 2}};
    for (int k = 0; k < 8; k++) {
      t.due("kept(" + k + ", 0)", t.of.kept(k, 0), 1);
      t.due("kept(" + k + ", 1)", t.of.kept(k, 1), wanted[k][0]);
      t.due("kept(" + k + ", 2)", t.of.kept(k, 2), wanted[k][1]);
    }
    t.due("kept(8, 0)", t.of.kept(8, 0), -1);
  }

  private static long next(long x) {
    return (1103515245L * x + 12345L) % (1L << 31);
  }

  /** A seed of which the next draw of 100 is this. */
  private static int seedOf(int draw) {
    int seed = 0;
    while (next(seed) / 64 % 100 != draw) {
      seed++;
    }
    return seed;
  }

  /** II: a TICK begins with a DRAW of 100: below noise. */
  private static void belowNoise() {
    int[][] flips = {{0, 0, 0}, {1, 0, 1}, {1, 1, 0}, {50, 49, 1}, {50, 50, 0}, {50, 51, 0}, {99, 98, 1}, {99, 99, 0}, {100, 99, 1}};
    for (int[] row : flips) {
      Trial t = Trial.told("II: noise " + row[0] + ", draw " + row[1], Twins.SMALL + "noise " + row[0] + ";");
      t.of.seed(seedOf(row[1]));
      t.due("chance(1)", t.of.chance(1), row[2]);
      t.due("has(10)", t.of.has(10), row[2]);
    }
    Trial t = Trial.told("II: without noise, draw 0", Twins.SMALL);
    t.of.seed(seedOf(0));
    t.due("chance(1)", t.of.chance(1), 0);
  }

  /** II: a DRAW of the SEGMENTS, a DRAW of the bytes of one; floor(x / 64) mod m, mod 2 to the 31. */
  private static void drawsOfSegmentsAndBytes() {
    String[] shapes = {"journal 3 blocks 3 bytes 17;", "journal 4 blocks 4 bytes 32;", "journal 2 blocks 2 bytes 31;"};
    for (String shape : shapes) {
      Trial t = Trial.told("II: " + shape, shape + "noise 70;");
      long x = Integer.MAX_VALUE - 12;
      t.of.seed((int) x);
      for (int tick = 0; tick < 40; tick++) {
        x = next(x);
        boolean flips = x / 64 % 100 < 70;
        int segment = 0;
        int at = 0;
        if (flips) {
          x = next(x);
          segment = (int) (x / 64 % t.of.has(0));
          x = next(x);
          at = (int) (x / 64 % t.of.has(1));
        }
        int before = t.of.octetOf(segment, at);
        t.due("chance(1) at " + tick, t.of.chance(1), flips ? 1 : 0);
        t.due("the byte", t.of.octetOf(segment, at), flips ? 255 - before : before);
      }
    }
  }

  /** II: BY THE SEED a TICK begins with it: what arrives in that TICK is written over it. */
  private static void flippedAheadOfTheTick() {
    // a seed that flips a byte of segment 0 that is on its way
    int seed = 0;
    int at = 0;
    for (boolean found = false; !found; seed++) {
      long x = next(next(seed));
      int segment = (int) (x / 64 % 2);
      at = (int) (next(x) / 64 % 32);
      found = segment == 0 && at > 5 && at < 12;
    }
    seed--;
    Trial t = told("II: ahead of what arrives", Twins.SMALL + "noise 100;", "put 1 1 size 0;");
    t.of.ticks(1);
    t.of.seed(seed);
    t.due("chance(1)", t.of.chance(1), 1);
    t.due("has(4)", t.of.has(4), 1);
    t.due("has(10)", t.of.has(10), 0);
    t.due("frames", t.of.segment(0, 3), 1);
    t = told("II: behind what had arrived", Twins.SMALL + "noise 100;", "put 1 1 size 0;");
    t.of.ticks(2);
    t.of.seed(seed);
    t.due("chance(1)", t.of.chance(1), 1);
    t.due("has(10)", t.of.has(10), 1);
    t.due("frames", t.of.segment(0, 3), 0);
  }

  /** II: SCARS are bytes FLIPPED an odd number of times since they were written (became 0) last, or at all. */
  private static void scars() {
    Trial t = told("II: SCARS", Twins.SMALL, "put 1 1 size 0;");
    for (int times = 1; times <= 5; times++) {
      t.due("flip", t.of.flip(0, 6), times % 2 == 1 ? 255 : 0);
      t.due("has(10) by " + times, t.of.has(10), times % 2);
    }
    t.of.flip(1, 0);
    t.due("has(10)", t.of.has(10), 2);
    t.of.ticks(2);
    t.due("has(10), byte 6 being written", t.of.has(10), 1);
    t.of.flip(0, 6);
    t.due("has(10), since it was written", t.of.has(10), 2);
    t.of.flip(0, 6);
    t.due("has(10)", t.of.has(10), 1);
    t.of.flip(0, 12);
    t.of.flip(0, 31);
    t.due("has(10)", t.of.has(10), 3);
    t.of.crash(0);
    t.due("has(10), from THE END on being 0", t.of.has(10), 1);
    t.octets(0, 12, 0);
    t.octets(1, 0, 255);
    t.of.flip(0, 12);
    t.of.flip(0, 12);
    t.due("has(10)", t.of.has(10), 1);
    t.of.append(1, 1, 0);
    t.of.ticks(1);
    for (int at = 12; at < 23; at++) {
      t.of.flip(0, at);
    }
    t.due("has(10), what is on its way", t.of.has(10), 12);
    t.of.crash(8);
    // the first 8 are written, behind THE END all become 0
    t.due("has(10)", t.of.has(10), 1);
    t = new Trial("II: GIVEN UP");
    Twins.halted(t.of);
    t.of.flip(0, 0);
    t.of.flip(1, 0);
    t.due("has(10)", t.of.has(10), 3);
    t.of.giveUp();
    t.due("has(10), behind THE END", t.of.has(10), 2);
    t = new Trial("II: GIVEN UP WITHOUT GROUND");
    Twins.groundless(t.of);
    t.of.flip(1, 31);
    t.of.giveUp();
    t.due("has(10)", t.of.has(10), 0);
  }
}
