/** The edges of promises 37 to 40 and of an image, a test a sentence: written, read byte by byte, read again, what was refused. */
public final class EdgesImageTest {
  public static void main(String[] args) {
    imageWithoutAJournal();
    imageHowManyBytes();
    imageOfTheSnap();
    imageOfTheDisk();
    imageCheck();
    octetOfNone();
    octetOfTheLatest();
    onWithoutAJournal();
    onOfAnotherLength();
    onOfAnotherCheck();
    onOfValuesAbove999();
    onAllIsAsItTells();
    onOfTheGreatestSerial();
    onOfTheSnapsNumber();
    onWhatStays();
    onNotDamagedBecomes0();
    statusOfOthers();
    statusOfEach();
    Trial.close();
  }

  private static int[] image(GroupJournal of) {
    int[] image = new int[Math.max(0, of.image())];
    for (int i = 0; i < image.length; i++) {
      image[i] = of.octet(i);
    }
    return image;
  }

  /** 37: NONE without a journal. */
  private static void imageWithoutAJournal() {
    Twins.looks("37: without a journal", Twins::without, of -> of.image(), -1);
    Twins.looks("38: without a journal", Twins::without, of -> of.octet(0), -1);
    Trial t = new Trial("37: none was written");
    Twins.without(t.of);
    t.of.image();
    t.due("octet(0)", t.of.octet(0), -1);
    Twins.looks("37: HALTED", of -> {
      Twins.halted(of);
      of.image();
    }, of -> of.image(), 99);
  }

  /** 37: AN IMAGE is written: how many bytes. */
  private static void imageHowManyBytes() {
    int[][] shapes = {{2, 2, 16}, {3, 2, 17}, {4, 3, 31}, {4, 4, 32}};
    for (int[] shape : shapes) {
      Trial t = Trial.told("37: how many bytes", "journal " + shape[0] + " blocks " + shape[1] + " bytes " + shape[2] + ";");
      int wanted = 2 + 32 + shape[0] * shape[1] * shape[2] + 1;
      t.due("image()", t.of.image(), wanted);
      t.due("octet of the last", t.of.octet(wanted - 1) >= 0, true);
      t.due("octet behind it", t.of.octet(wanted), -1);
    }
  }

  /** An image: the SNAP's number (modulo 65536), for each KEY its VALUE there (two bytes each; 65535: none). */
  private static void imageOfTheSnap() {
    Trial t = Trial.told("37: the SNAP", Twins.SMALL + "closes all;takes 1;put 0 0 size 0;put 15 999 size 0;put 7 256 size 0;");
    int[] none = image(t.of);
    t.of.ticks(2);
    int[] acknowledged = image(t.of);
    t.of.snap();
    int[] image = image(t.of);
    for (int i = 0; i < 34; i++) {
      t.due("byte " + i + " at first", none[i], i < 2 ? 0 : 255);
      t.due("byte " + i + " without a SNAP of it", acknowledged[i], i < 2 ? 0 : 255);
    }
    t.due("number", image[0] << 8 | image[1], 3);
    for (int key = 0; key < 16; key++) {
      int wanted = key == 0 ? 0 : key == 15 ? 999 : key == 7 ? 256 : 65535;
      t.due("value of " + key, image[2 + 2 * key] << 8 | image[3 + 2 * key], wanted);
    }
    int[] numbers = {255, 256, 65534, 65535};
    for (int number : numbers) {
      t = new Trial("37: number " + number + " and the next two");
      Twins.tell(t.of, Twins.SMALL + "closes all;takes 1;");
      int[] told = image(t.of);
      told[0] = number >> 8;
      told[1] = number & 255;
      Trial.head(told, 0, 5, number);
      t.tapeImage(told);
      t.due("on()", t.of.on(), true);
      for (int next = number; next <= number + 2; next++) {
        int[] then = image(t.of);
        t.due("has(8)", t.of.has(8), next);
        t.due("its number modulo 65536", then[0] << 8 | then[1], next % 65536);
        t.of.append(1, 1, 0);
        t.of.ticks(2);
        t.of.snap();
      }
    }
  }

  /** An image: all bytes of SEGMENT 0, 1 and on: those on the disk. */
  private static void imageOfTheDisk() {
    Trial t = new Trial("37: the disk");
    Twins.busy(t.of);
    int[] image = image(t.of);
    for (int at = 0; at < 64; at++) {
      t.due("byte " + at, image[34 + at], t.of.octetOf(at / 32, at % 32));
    }
    t = Trial.told("37: the last byte of the greatest", Twins.GREAT);
    t.of.flip(3, 127);
    t.of.flip(1, 0);
    t.due("image()", t.of.image(), 547);
    t.due("octet(545)", t.of.octet(545), 255);
    t.due("octet(544)", t.of.octet(544), 0);
    t.due("octet(34 + 127)", t.of.octet(161), 0);
    t.due("octet(34 + 128)", t.of.octet(162), 255);
  }

  /** An image: last a byte: all ahead from 139 on, c = (3 c + it) mod 251. */
  private static void imageCheck() {
    for (int at : new int[] {0, 31, 32, 63}) {
      Trial t = Trial.told("37: the last byte, byte " + at + " being flipped", Twins.SMALL);
      t.of.flip(at / 32, at % 32);
      int[] image = image(t.of);
      t.due("octet(98)", image[98], Trial.check(139, image, 0, 98));
    }
    // the byte ahead of it makes it what one likes
    for (int wanted : new int[] {0, 1, 249, 250}) {
      int[] image = changed();
      image[97] = (wanted - Trial.check(139, image, 0, 97) * 3 % 251 + 251) % 251;
      image[98] = wanted;
      Trial t = new Trial("37: the last byte is " + wanted);
      Twins.busy(t.of);
      Twins.lay(t.of, image);
      t.due("on(), the last byte being " + wanted, t.of.on(), true);
      t.due("image()", t.of.image(), 99);
      t.due("octet(98)", t.of.octet(98), wanted);
    }
  }

  /** 38: NONE when there is none such. */
  private static void octetOfNone() {
    for (int k : new int[] {Integer.MIN_VALUE, -1, 99, 100, 547, Integer.MAX_VALUE}) {
      Twins.looks("38: octet(" + k + ")", Twins::busy, of -> of.octet(k), -1);
    }
    Twins.looks("38: octet(0)", Twins::busy, of -> of.octet(0), 0);
    Twins.looks("38: octet(1)", Twins::busy, of -> of.octet(1), 2);
    Twins.looks("38: none was written", Twins.told(Twins.SMALL), of -> of.octet(0), -1);
  }

  /** 38: Byte k of the latest image(). */
  private static void octetOfTheLatest() {
    Trial t = Trial.told("38: the latest", Twins.GREAT);
    t.due("image()", t.of.image(), 547);
    t.of.flip(0, 0);
    t.due("octet(34), written ahead of the flip", t.of.octet(34), 0);
    t.of.image();
    t.due("octet(34)", t.of.octet(34), 255);
    Twins.tell(t.of, Twins.SMALL);
    t.due("octet(546), a journal on", t.of.octet(546) >= 0, true);
    t.due("image()", t.of.image(), 99);
    t.due("octet(98)", t.of.octet(98) >= 0, true);
    t.due("octet(99), of the one before", t.of.octet(99), -1);
  }

  private static Twins.Call on(int... octets) {
    return of -> {
      Twins.lay(of, octets);
      return of.on() ? 1 : 0;
    };
  }

  /** The image that a journal of the smallest shape writes, changed at a byte, its last byte made right. */
  private static int[] changed(int... changes) {
    GroupJournal of = new GroupJournal();
    Twins.busy(of);
    int[] image = image(of);
    for (int i = 0; i < changes.length; i += 2) {
      image[changes[i]] = changes[i + 1];
    }
    image[98] = Trial.check(139, image, 0, 98);
    return image;
  }

  /** 39: false, refused (6), without a journal, all staying. */
  private static void onWithoutAJournal() {
    Twins.refusesTape("39: without a journal", Twins::without, on(changed()), 0, Twins.SETTING);
    Twins.refusesTape("39: without a journal, no tape", Twins::without, on(), 0, Twins.SETTING);
    int[] least = new int[35];
    least[34] = Trial.check(139, least, 0, 34);
    Twins.refusesTape("39: without a journal, of no bytes", Twins::without, on(least), 0, Twins.SETTING);
  }

  /** 39: when it is none: of another JOURNAL. */
  private static void onOfAnotherLength() {
    for (int length : new int[] {0, 1, 34, 35, 97, 98, 100, 101, 131, 547, 1600}) {
      int[] image = java.util.Arrays.copyOf(changed(), length);
      if (length > 0) {
        image[length - 1] = Trial.check(139, image, 0, length - 1);
      }
      Twins.refusesTape("39: of " + length + " bytes", Twins::busy, on(image), 0, Twins.SETTING);
      Twins.refusesTape("39: of " + length + " bytes, HALTED", Twins::halted, on(image), 0, Twins.SETTING);
    }
    Trial t = new Trial("39: of 99 bytes");
    Twins.busy(t.of);
    t.due("on()", on(changed()).on(t.of), 1);
    t.due("status(6)", t.of.status(6), 0);
    t.due("end(1), the tape having gone", t.of.end(1), false);
  }

  /** 39: when it is none: its last byte. */
  private static void onOfAnotherCheck() {
    for (int by : new int[] {1, 2, 128, 255}) {
      int[] image = changed();
      image[98] = (image[98] + by) % 256;
      Twins.refusesTape("39: the last byte", Twins::busy, on(image), 0, Twins.SETTING);
    }
    for (int at : new int[] {0, 1, 2, 33, 34, 97}) {
      int[] image = changed();
      image[at] = image[at] ^ 1;
      Twins.refusesTape("39: byte " + at, Twins::busy, on(image), 0, Twins.SETTING);
    }
    // 0 and 251 are alike modulo 251, but c is below 251
    for (int first = 0; first < 256; first++) {
      int[] image = changed(40, first);
      if (image[98] < 5) {
        image[98] += 251;
        Twins.refusesTape("39: a last byte of 251 or more", Twins::busy, on(image), 0, Twins.SETTING);
      }
    }
  }

  /** 39: VALUES 999 at most (65535: none). */
  private static void onOfValuesAbove999() {
    for (int key : new int[] {0, 1, 15}) {
      for (int value : new int[] {1000, 1001, 1023, 1024, 32767, 32768, 65279, 65280, 65533, 65534}) {
        Twins.refusesTape("39: value " + value + " of " + key, Twins::busy,
            on(changed(2 + 2 * key, value >> 8, 3 + 2 * key, value & 255)), 0, Twins.SETTING);
      }
      for (int value : new int[] {0, 1, 255, 256, 998, 999, 65535}) {
        Trial t = new Trial("39: value " + value + " of " + key);
        Twins.busy(t.of);
        t.due("on()", on(changed(2 + 2 * key, value >> 8, 3 + 2 * key, value & 255)).on(t.of), 1);
        t.due("value(" + key + ")", t.of.value(key), value == 65535 ? -1 : value);
      }
    }
  }

  /** 39: SNAP and disk are as it tells, TICK is 0, nothing is on its way, waits, is KEPT or can be undone, no SCARS. */
  private static void onAllIsAsItTells() {
    Twins.Setup[] setups = {Twins::busy, Twins::halted, Twins::groundless};
    for (Twins.Setup setup : setups) {
      Trial t = new Trial("39: all is as it tells");
      setup.on(t.of);
      int seen = t.of.has(12);
      t.due("on()", on(changed()).on(t.of), 1);
      t.has(2, 32, 0, 2, 2, 0, 0, 0, 2, 0, 0, 0, seen, 0, 0);
      int[] values = {-1, 10, 20, -1, -1, -1};
      for (int key = 0; key < values.length; key++) {
        t.due("value(" + key + ")", t.of.value(key), values[key]);
        t.due("soon(" + key + ")", t.of.soon(key), values[key]);
      }
      for (int who = 0; who < 8; who++) {
        t.due("waiter(" + who + ")", t.of.waiter(who), -1);
      }
      t.due("undo()", t.of.undo(), false);
      t.due("kept(0, 0)", t.of.kept(0, 0), -1);
      t.due("place(0)", t.of.place(0), 0);
      t.due("place(1)", t.of.place(1), 23);
      t.due("place(2)", t.of.place(2), 1);
      t.due("segment(1, 2)", t.of.segment(1, 2), 1);
      t.due("append", t.of.append(1, 1, 1), 2);
    }
  }

  /** 39: the greatest serial so far is that of a right HEAD (0 without). */
  private static void onOfTheGreatestSerial() {
    int[][] serials = {{1, 0, 2}, {1, 1, 2}, {1, 9, 10}, {9, 1, 10}, {255, 256, 257}, {65534, 0, 65535}};
    for (int[] row : serials) {
      Trial t = Trial.told("39: of serials " + row[0] + ", " + row[1], Twins.SMALL + "closes all;takes 1;");
      int[] image = image(t.of);
      Trial.head(image, 0, row[0], 0);
      Trial.head(image, 32, row[1], 0);
      t.tapeImage(image);
      t.due("on()", t.of.on(), true);
      t.of.append(1, 1, 16);
      t.of.append(1, 1, 16);
      t.of.ticks(1);
      t.due("the one that follows", t.of.place(2), row[2]);
    }
    Trial t = Trial.told("39: a wrong HEAD counts not", Twins.SMALL + "closes all;takes 1;");
    int[] image = image(t.of);
    Trial.head(image, 32, 700, 0);
    image[34 + 36] = (image[34 + 36] + 1) % 251;
    t.tapeImage(image);
    t.due("on()", t.of.on(), true);
    t.of.append(1, 1, 16);
    t.of.append(1, 1, 16);
    t.of.ticks(1);
    t.due("the one that follows", t.of.place(2), 2);
    t = new Trial("39: what was OPENED before counts not");
    Twins.busy(t.of);
    t.due("place(2)", t.of.place(2), 2);
    on(changed()).on(t.of);
    t.of.append(1, 1, 0);
    t.of.append(1, 1, 16);
    t.of.ticks(1);
    t.due("the one that follows", t.of.place(2), 2);
    t = Trial.told("39: 0 without", Twins.SMALL);
    image = image(t.of);
    for (int at = 34; at < 98; at++) {
      image[at] = 0;
    }
    t.tapeImage(image);
    t.due("on()", t.of.on(), true);
    t.due("place(2)", t.of.place(2), 0);
    t.of.giveUp();
    t.due("place(2)", t.of.place(2), 1);
  }

  /** 39: SNAP is as it tells: its number. */
  private static void onOfTheSnapsNumber() {
    for (int number : new int[] {0, 1, 255, 256, 65535}) {
      Trial t = Trial.told("39: the SNAP's number " + number, Twins.SMALL);
      int[] image = image(t.of);
      image[0] = number >> 8;
      image[1] = number & 255;
      Trial.head(image, 0, 1, number);
      t.tapeImage(image);
      t.due("on()", t.of.on(), true);
      t.has(2, 32, 0, number, number, 0, 0, 0, number, 0, 0, 0, 0, 0, 0);
      t.due("when, below it", t.of.when(number - 1), number > 0 ? 0 : -1);
    }
  }

  /** 39: the seed, the refused ones, the latest image are none of those that it changes. */
  private static void onWhatStays() {
    Trial t = Trial.told("39: what stays", Twins.SMALL + "noise 100;");
    int[] image = image(t.of);
    t.of.seed(815);
    t.of.undo();
    t.of.flip(1, 1);
    t.of.image();
    int octet = t.of.octet(67);
    t.due("on()", on(image).on(t.of), 1);
    t.due("octet(67)", t.of.octet(67), octet);
    t.due("status(5)", t.of.status(5), 1);
    Trial twin = Trial.told("39: its twin", Twins.SMALL + "noise 100;");
    twin.of.seed(815);
    t.of.chance(9);
    twin.of.chance(9);
    for (int at = 0; at < 64; at++) {
      t.due("byte " + at, t.of.octetOf(at / 32, at % 32), twin.of.octetOf(at / 32, at % 32));
    }
    t.due("chance, the journal staying", t.of.chance(1), 1);
  }

  /** 39: and all is RECOVERED: a tail is cut, damage halts. */
  private static void onNotDamagedBecomes0() {
    Trial t = new Trial("39: a torn tail");
    Twins.busy(t.of);
    t.due("on()", on(changed(34 + 23, 77, 34 + 31, 99)).on(t.of), 1);
    t.due("has(14)", t.of.has(14), 0);
    t.octets(0, 23, 0, 0, 0, 0, 0, 0, 0, 0, 0);
    t = new Trial("39: damage");
    Twins.busy(t.of);
    t.due("on()", on(changed(34, 1)).on(t.of), 1);
    t.due("has(14)", t.of.has(14), 1);
    t.due("octetOf(0, 0)", t.of.octetOf(0, 0), 1);
    t.due("has(10)", t.of.has(10), 0);
  }

  /** 40: NONE for others. */
  private static void statusOfOthers() {
    for (int what : new int[] {Integer.MIN_VALUE, -1, 7, 8, Integer.MAX_VALUE}) {
      Twins.looks("40: status(" + what + ")", Twins::busy, of -> of.status(what), -1);
      Twins.looks("40: status(" + what + ")", of -> { }, of -> of.status(what), -1);
    }
  }

  /** 40: How many were refused, each call of its own kind. */
  private static void statusOfEach() {
    Twins.Setup full = of -> {
      for (int i = 0; i < 80; i++) {
        of.feed(0, 0, 0, 0, 0);
      }
    };
    Twins.refuses("40: feed", full, of -> of.feed(0, 0, 0, 0, 0), -1, 0);
    Twins.refuses("40: end", Twins::busy, of -> of.end(-1) ? 1 : 0, 0, 0);
    Twins.refusesTape("40: see", Twins::busy, of -> {
      Twins.lay(of, 99);
      return of.see();
    }, -1, 1);
    Twins.refuses("40: append", Twins::busy, of -> of.append(-1, 0, 0), -1, 2);
    Twins.refuses("40: waits", Twins::busy, of -> of.waits(-1, 0) ? 1 : 0, 0, 2);
    Twins.refuses("40: ticks", Twins::busy, of -> of.ticks(0), -1, 3);
    Twins.refuses("40: chance", Twins::busy, of -> of.chance(0), -1, 3);
    Twins.refuses("40: snap", Twins::busy, of -> of.snap(), -1, 4);
    Twins.refuses("40: crash", Twins::busy, of -> of.crash(-1), -1, 4);
    Twins.refuses("40: giveUp", Twins::busy, of -> of.giveUp(), -1, 4);
    Twins.refuses("40: flip", Twins::busy, of -> of.flip(-1, 0), -1, 4);
    Twins.refuses("40: undo", of -> { }, of -> of.undo() ? 1 : 0, 0, 5);
    Twins.refuses("40: seed", Twins::busy, of -> of.seed(-1) ? 1 : 0, 0, 6);
    Twins.refusesTape("40: on", Twins::busy, on(1, 2, 3), 0, 6);
    Trial t = new Trial("40: journal, and each once more");
    Twins.busy(t.of);
    for (int times = 1; times <= 9; times++) {
      Twins.lay(t.of, "x");
      t.of.journal();
      t.of.flip(-1, 0);
      t.due("status(1)", t.of.status(1), times);
      t.due("status(4)", t.of.status(4), times);
      t.due("status(0)", t.of.status(0), 0);
    }
    Twins.tell(t.of, Twins.SMALL);
    t.due("status(4), a journal on", t.of.status(4), 9);
  }
}
