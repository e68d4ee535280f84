/** Promises 1 to 3: a new object, the tape. */
public final class TapeTest {
  public static void main(String[] args) {
    newObject();
    feeding();
    byteOrder();
    ending();
    Trial.close();
  }

  private static void newObject() {
    Trial t = new Trial("1 a new object");
    for (int what = 0; what <= 14; what++) {
      t.due("has(" + what + ")", t.of.has(what), 0);
    }
    for (int what = 0; what <= 6; what++) {
      t.due("status(" + what + ")", t.of.status(what), 0);
    }
    t.due("fault(0)", t.of.fault(0), 0);
    t.due("fault(1)", t.of.fault(1), -1);
    t.due("segment(0, 2)", t.of.segment(0, 2), -1);
    t.due("place(0)", t.of.place(0), -1);
    t.due("place(2)", t.of.place(2), -1);
    t.due("value(0)", t.of.value(0), -1);
    t.due("image()", t.of.image(), -1);
    t.due("NONE", GroupJournal.NONE, -1);
    t.due("NOTHING", GroupJournal.NOTHING, -1000000000000000L);
  }

  private static void feeding() {
    Trial t = new Trial("2 feed");
    for (int fed = 20; fed <= 1600; fed += 20) {
      t.due("feed", t.of.feed(0, 0, 0, 0, 0), fed);
    }
    t.due("feed beyond 1600", t.of.feed(0, 0, 0, 0, 0), -1);
    t.due("status(0)", t.of.status(0), 1);
    t.due("end(1581)", t.of.end(1581), true);
    t.due("feed to 1601", t.of.feed(0, 0, 0, 0, 0), -1);
    t.due("end(1580)", t.of.end(1580), true);
    t.due("feed to 1600", t.of.feed(0, 0, 0, 0, 0), 1600);
    t.due("status(0)", t.of.status(0), 2);
  }

  private static void byteOrder() {
    Trial t = Trial.told("2 the order of bytes", "journal 2 blocks 2 bytes 16;");
    // a flipped byte of the disk in an image tells every byte of a number, those above 127 too
    int[] image = t.image();
    int[] bytes = {128, 1, 255, 127, 0, 200, 254, 3};
    System.arraycopy(bytes, 0, image, 70, bytes.length);
    t.tapeImage(image);
    t.due("on()", t.of.on(), true);
    for (int i = 0; i < bytes.length; i++) {
      t.due("octetOf(1, " + (4 + i) + ")", t.of.octetOf(1, 4 + i), bytes[i]);
    }
  }

  private static void ending() {
    Trial t = new Trial("3 end");
    t.due("end(0)", t.of.end(0), true);
    t.due("end(1)", t.of.end(1), false);
    t.of.feed(0x6a6f7572, 0x6e616c20, 0x3220626c, 0x6f636b73, 0x20322062);
    t.of.feed(0x79746573, 0x2031363b, 0x78787878, 0, 0);
    t.due("end(-1)", t.of.end(-1), false);
    t.due("end(41)", t.of.end(41), false);
    t.due("status(0)", t.of.status(0), 3);
    t.due("end(40)", t.of.end(40), true);
    t.due("end(28)", t.of.end(28), true);
    t.due("end(29)", t.of.end(29), false);
    t.due("journal()", t.of.journal(), 1);
    t.due("end(1), the tape having gone", t.of.end(1), false);
    t.due("status(0)", t.of.status(0), 5);
  }
}
