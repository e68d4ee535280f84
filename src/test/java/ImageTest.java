/** Promises 37 to 40: images written and read, what was refused. */
public final class ImageTest {
  private static final String BASE = "journal 2 blocks 2 bytes 16;closes all;takes 1;";

  public static void main(String[] args) {
    written();
    readAgain();
    refused();
    recovered();
    greatestSerial();
    highNumbers();
    counts();
    Trial.close();
  }

  private static void written() {
    Trial t = Trial.told("37 image", BASE + "put 1 5 size 0;put 15 999 size 0;");
    t.due("octet(0), none being written", t.of.octet(0), -1);
    t.of.ticks(2);
    t.of.snap();
    t.of.append(2, 7, 0);
    t.of.ticks(1);
    int[] image = t.image();
    t.due("image()", image.length, 2 + 32 + 64 + 1);
    int[] wanted = new int[99];
    wanted[1] = 2;
    for (int i = 2; i < 34; i++) {
      wanted[i] = 255;
    }
    wanted[4] = 0;
    wanted[5] = 5;
    wanted[32] = 3;
    wanted[33] = 231;
    for (int i = 0; i < 64; i++) {
      wanted[34 + i] = t.of.octetOf(i / 32, i % 32);
    }
    wanted[98] = Trial.check(139, wanted, 0, 98);
    for (int i = 0; i < 99; i++) {
      t.due("octet(" + i + ")", image[i], wanted[i]);
    }
    t.due("octet(99)", t.of.octet(99), -1);
    t.due("octet(-1)", t.of.octet(-1), -1);
    t.of.ticks(1);
    t.of.snap();
    t.due("octet(1), of the latest image", t.of.octet(1), 2);
    t.due("image()", t.of.image(), 99);
    t.due("octet(1)", t.of.octet(1), 3);
  }

  private static void readAgain() {
    Trial t = Trial.told("39 on", BASE + "put 1 5 size 0;put 2 6 size 0;");
    t.of.ticks(2);
    t.of.snap();
    t.of.append(3, 7, 0);
    t.of.ticks(2);
    int[] image = t.image();
    t.of.append(4, 8, 0);
    t.of.waits(2, 3);
    t.of.ticks(2);
    t.of.append(4, 9, 0);
    t.of.waits(2, 4);
    t.of.ticks(1);
    t.of.append(4, 10, 0);
    t.of.flip(1, 31);
    t.tapeImage(image);
    t.due("on()", t.of.on(), true);
    t.has(2, 32, 0, 3, 3, 0, 0, 0, 2, 0, 0, 0, 0, 0, 0);
    int[] values = {-1, 5, 6, 7, -1};
    for (int key = 0; key < values.length; key++) {
      t.due("value(" + key + ")", t.of.value(key), values[key]);
    }
    t.due("recovers(0, 4)", t.of.recovers(0, 4), 3);
    t.due("place(0)", t.of.place(0), 0);
    t.due("place(1)", t.of.place(1), 30);
    t.due("waiter(2)", t.of.waiter(2), -1);
    t.due("undo()", t.of.undo(), false);
    t.due("octetOf(1, 31)", t.of.octetOf(1, 31), 0);
    t.due("end(1), the tape having gone", t.of.end(1), false);
    t.due("append", t.of.append(5, 5, 0), 3);
  }

  private static void refused() {
    Trial t = new Trial("39 on without a journal");
    t.tape(new int[99]);
    t.due("on()", t.of.on(), false);
    t.due("status(6)", t.of.status(6), 1);

    t = Trial.told("39 on refused", BASE + "put 1 5 size 0;");
    t.of.ticks(2);
    t.of.snap();
    int[] image = t.image();
    int[] other = image.clone();
    other[98] ^= 1;
    t.tape(other);
    t.due("on(), a wrong check", t.of.on(), false);
    t.due("end(1), the tape having gone", t.of.end(1), false);
    other = image.clone();
    other[2] = 3;
    other[3] = 232;
    t.tapeImage(other);
    t.due("on(), a value of 1000", t.of.on(), false);
    other[2] = 255;
    other[3] = 254;
    t.tapeImage(other);
    t.due("on(), a value of 65534", t.of.on(), false);
    other = image.clone();
    other[32] = 3;
    other[33] = 232;
    t.tapeImage(other);
    t.due("on(), a value of 1000 of key 15", t.of.on(), false);
    other = image.clone();
    t.tapeImage(java.util.Arrays.copyOf(image, 98));
    t.due("on(), too short", t.of.on(), false);
    t.tapeImage(java.util.Arrays.copyOf(image, 100));
    t.due("on(), too long", t.of.on(), false);
    t.due("on(), nothing", t.of.on(), false);
    t.due("status(6)", t.of.status(6), 7);
    t.due("all stays: has(2)", t.of.has(2), 2);
    t.due("has(13)", t.of.has(13), 2);
    other[2] = 3;
    other[3] = 231;
    t.tapeImage(other);
    t.due("on(), a value of 999", t.of.on(), true);
    t.due("value(0)", t.of.value(0), 999);
  }

  private static void recovered() {
    Trial t = Trial.told("39 what is recovered", BASE);
    int[] image = t.image();
    for (int i = 39; i < 66; i++) {
      image[i] = 7;
    }
    t.tapeImage(image);
    t.due("on()", t.of.on(), true);
    t.octets(0, 5, 0, 0, 0, 0);
    t.due("has(10)", t.of.has(10), 0);
    image[1] = 9;
    t.tapeImage(image);
    t.due("on(), a snap of number 9, which nothing reaches", t.of.on(), true);
    t.due("has(14)", t.of.has(14), 1);
    t.due("has(3)", t.of.has(3), 9);
    t.due("place(2)", t.of.place(2), 0);
    t.octets(0, 5, 7, 7);
  }

  private static void greatestSerial() {
    Trial t = Trial.told("39 the greatest serial", BASE);
    int[] image = t.image();
    Trial.head(image, 32, 511, 9);
    t.tapeImage(image);
    t.due("on()", t.of.on(), true);
    t.due("has(14), a greater serial", t.of.has(14), 1);
    t.due("place(2)", t.of.place(2), 1);
    t.of.giveUp();
    t.of.append(0, 1, 16);
    t.of.append(0, 2, 0);
    t.of.ticks(1);
    t.due("place(2)", t.of.place(2), 512);
    t.of.ticks(1);
    t.octets(1, 0, 2, 0, 0, 1);
    t.octets(1, 8, 0);

    Trial.head(image, 0, 515, 0);
    Trial.head(image, 32, 514, 0);
    t.tapeImage(image);
    t.due("on()", t.of.on(), true);
    t.due("octet(34)", t.image()[34], 2);
    t.of.append(0, 1, 16);
    t.of.append(0, 2, 0);
    t.of.ticks(1);
    t.due("place(2)", t.of.place(2), 516);

    for (int i = 34; i < 98; i++) {
      image[i] = 0;
    }
    t.tapeImage(image);
    t.due("on(), no head", t.of.on(), true);
    t.due("giveUp()", t.of.giveUp(), 0);
    t.due("place(2), the greatest being 0", t.of.place(2), 1);
  }

  /** Numbers of records go beyond 65535, in heads and images they are told modulo 65536. */
  private static void highNumbers() {
    Trial t = Trial.told("37 numbers beyond 65535", BASE);
    int[] image = t.image();
    image[0] = 255;
    image[1] = 255;
    Trial.head(image, 0, 3, 65535);
    t.tapeImage(image);
    t.due("on()", t.of.on(), true);
    t.due("has(3)", t.of.has(3), 65535);
    t.of.append(0, 1, 16);
    t.due("append", t.of.append(0, 2, 0), 65536);
    t.of.ticks(2);
    t.due("has(4)", t.of.has(4), 65537);
    t.due("the head's number", t.of.segment(1, 1), 0);
    t.due("snap()", t.of.snap(), 65537);
    int[] then = t.image();
    t.due("octet(0)", then[0], 0);
    t.due("octet(1)", then[1], 1);
  }

  private static void counts() {
    Trial t = Trial.told("40 status", BASE);
    t.of.end(5);
    t.of.journal();
    t.of.see();
    t.of.append(0, 0, 99);
    t.of.waits(0, 0);
    t.of.waits(0, 1);
    t.of.ticks(0);
    t.of.chance(0);
    t.of.ticks(0);
    t.of.chance(0);
    t.of.snap();
    t.of.crash(1);
    t.of.giveUp();
    t.of.flip(9, 9);
    t.of.undo();
    t.of.undo();
    t.of.seed(-5);
    t.of.on();
    t.of.image();
    t.of.ask();
    int[] wanted = {1, 2, 3, 4, 4, 2, 2, -1};
    for (int what = 0; what < wanted.length; what++) {
      t.due("status(" + what + ")", t.of.status(what), wanted[what]);
    }
    t.due("status(-1)", t.of.status(-1), -1);
    t.tape(BASE);
    t.of.journal();
    t.due("status(3), a journal on", t.of.status(3), 4);
  }
}
