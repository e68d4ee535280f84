/** A journal under test: texts are fed as tapes, and answers that are not due are printed and counted. */
final class Trial {
  final GroupJournal of = new GroupJournal();
  private final String name;
  private static int wrong = 0;
  private static int asked = 0;

  Trial(String name) {
    this.name = name;
  }

  /** A trial whose journal has been told a text. */
  static Trial told(String name, String text) {
    Trial trial = new Trial(name);
    trial.tape(text);
    trial.holds("journal() of " + text, trial.of.journal() > 0);
    return trial;
  }

  /** Lays a text on the tape, which must be empty. */
  void tape(String text) {
    tape(octets(text));
  }

  void tape(int... octets) {
    due("end(" + octets.length + ")", feed(of, octets), true);
  }

  static int[] octets(String text) {
    int[] octets = new int[text.length()];
    for (int i = 0; i < octets.length; i++) {
      octets[i] = text.charAt(i);
    }
    return octets;
  }

  /** Lays bytes on a tape, which must be empty. */
  static boolean feed(GroupJournal of, int... octets) {
    for (int at = 0; at < octets.length; at += 20) {
      of.feed(word(octets, at), word(octets, at + 4), word(octets, at + 8), word(octets, at + 12), word(octets, at + 16));
    }
    return of.end(octets.length);
  }

  /** THE CHECK of bytes, from a start on. */
  static int check(int start, int[] octets, int from, int to) {
    int check = start;
    for (int i = from; i < to; i++) {
      check = (3 * check + octets[i]) % 251;
    }
    return check;
  }

  /** All bytes of the latest image. */
  int[] image() {
    int[] octets = new int[of.image()];
    for (int i = 0; i < octets.length; i++) {
      octets[i] = of.octet(i);
    }
    return octets;
  }

  /** Puts a right head of a segment of so many bytes into an image. */
  static void head(int[] image, int address, int serial, int number) {
    int[] head = {serial >> 8, serial & 255, number >> 8, number & 255, 0};
    head[4] = check(7, head, 0, 4);
    System.arraycopy(head, 0, image, 34 + address, 5);
  }

  /** Puts a frame with a record of size 0 into an image, its check made right. */
  static void frame(int[] image, int address, int serial, int key, int value) {
    int[] frame = {0, 1, 3, serial & 255, key, value >> 8, value & 255};
    frame[0] = check(7, frame, 1, 7);
    System.arraycopy(frame, 0, image, 34 + address, 7);
  }

  /** Lays an image on the tape, its last byte made right. */
  void tapeImage(int[] image) {
    image[image.length - 1] = check(139, image, 0, image.length - 1);
    tape(image);
  }

  /** What has() answers from 0 on. */
  void has(int... wanted) {
    for (int what = 0; what < wanted.length; what++) {
      due("has(" + what + ")", of.has(what), wanted[what]);
    }
  }

  /** The bytes of a segment are these from one on. */
  void octets(int segment, int from, int... wanted) {
    for (int i = 0; i < wanted.length; i++) {
      due("octetOf(" + segment + ", " + (from + i) + ")", of.octetOf(segment, from + i), wanted[i]);
    }
  }

  long ask(String question) {
    tape(question);
    return of.ask();
  }

  static int word(int[] octets, int at) {
    int word = 0;
    for (int i = 0; i < 4; i++) {
      word = word << 8 | (at + i < octets.length ? octets[at + i] & 255 : 32);
    }
    return word;
  }

  void due(String call, long got, long want) {
    asked++;
    if (got != want) {
      wrong++;
      System.out.println(name + ": " + call + " answered " + got + ", due is " + want);
    }
  }

  void due(String call, boolean got, boolean want) {
    due(call, got ? 1 : 0, want ? 1 : 0);
  }

  void holds(String what, boolean holds) {
    due(what, holds, true);
  }

  /** Ends the test's program: by 1, if an answer was not the one that is due. */
  static void close() {
    System.out.println(wrong + " of " + asked + " answers are not as due");
    if (wrong != 0 || asked == 0) {
      System.exit(1);
    }
  }
}
