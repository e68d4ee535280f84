/** The edges of promises 1 to 5, a test a sentence: a new object, feed, end, journal, fault. */
public final class EdgesTapeTest {
  public static void main(String[] args) {
    newObject();
    the512thCall();
    feedTo1600();
    feedHighestFirst();
    endOfWhatIsThere();
    journalTakesTheTape();
    journalWithoutAStatement();
    journalWithAFault();
    journalAnew();
    journalOfWhatIsTold();
    journalKeepsTheSeed();
    faultOfTheLatest();
    faultOfOthers();
    Trial.close();
  }

  /** 1: No journal. Each call answers as it is told for that. */
  private static void newObject() {
    Twins.Setup fresh = of -> { };
    for (int what = 0; what <= 14; what++) {
      int asked = what;
      Twins.looks("1: has(" + what + ")", fresh, of -> of.has(asked), 0);
    }
    Twins.looks("1: segment", fresh, of -> of.segment(0, 2), -1);
    Twins.looks("1: frame", fresh, of -> of.frame(0, 0, 0), -1);
    Twins.looks("1: octetOf", fresh, of -> of.octetOf(0, 0), -1);
    Twins.looks("1: value", fresh, of -> of.value(0), -1);
    Twins.looks("1: soon", fresh, of -> of.soon(0), -1);
    Twins.looks("1: waiting", fresh, of -> of.waiting(0, 0), -1);
    Twins.looks("1: waiter", fresh, of -> of.waiter(0), -1);
    Twins.looks("1: kept", fresh, of -> of.kept(0, 0), -1);
    Twins.looks("1: when", fresh, of -> of.when(0), -1);
    Twins.looks("1: octet", fresh, of -> of.octet(0), -1);
    Twins.looks("1: fault(0)", fresh, of -> of.fault(0), 0);
    Twins.looks("1: fault(1)", fresh, of -> of.fault(1), -1);
    for (int what = 0; what <= 6; what++) {
      int asked = what;
      Twins.looks("1: status(" + what + ")", fresh, of -> of.status(asked), 0);
    }
    Trial t = new Trial("1: the constants");
    t.due("NONE", GroupJournal.NONE, -1);
    t.due("NOTHING", GroupJournal.NOTHING, -1000000000000000L);
    t.due("nothing on the tape: end(1)", t.of.end(1), false);
  }

  /** An object is used for at most 512 calls: the last of them answers as the first one. */
  private static void the512thCall() {
    Trial t = Trial.told("the 512th call", Twins.GREAT + "closes all;takes 9;noise 100;" + "put 1 1 size 0;".repeat(3));
    // 102 bytes come onto the tape: 6 calls of feed, end, journal
    int calls = 6 + 1 + 1;
    for (; calls < 500; calls++) {
      t.due("flip", t.of.flip(1, calls % 128), calls < 128 + 8 || calls >= 256 + 8 && calls < 384 + 8 ? 255 : 0);
    }
    t.due("ticks(100)", t.of.ticks(100), 0);
    t.due("chance(100)", t.of.chance(100), 100);
    t.due("has(4)", t.of.has(4), 3);
    t.due("undo()", t.of.undo(), true);
    t.due("undo()", t.of.undo(), true);
    t.due("has(2)", t.of.has(2), 0);
    t.due("has(4)", t.of.has(4), 0);
    t.due("when(2)", t.of.when(2), 10);
    t.due("best(1)", t.of.best(1), 30);
    t.due("room(40)", t.of.room(40), 8);
    t.due("image()", t.of.image(), 547);
    t.due("has(13), the 512th", t.of.has(13), 18);
  }

  private static Twins.Setup fed(int octets) {
    return of -> {
      Twins.busy(of);
      Twins.lay(of, "total 4+tick" + " ".repeat(1600 - 12));
      of.end(octets);
    };
  }

  /** 2: how many there are; NONE, refused (0), if there would be more than 1600. */
  private static void feedTo1600() {
    Trial t = new Trial("2: feed to 1600");
    for (int there = 20; there <= 1600; there += 20) {
      t.due("feed", t.of.feed(1, 2, 3, 4, 5), there);
    }
    t.due("feed to 1620", t.of.feed(1, 2, 3, 4, 5), -1);
    t.due("status(0)", t.of.status(0), 1);
    for (int there : new int[] {1581, 1590, 1599, 1600}) {
      Twins.refuses("2: feed behind " + there, fed(there), of -> of.feed(-1, -1, -1, -1, -1), -1, Twins.TAPE);
    }
    t = new Trial("2: feed behind 1580");
    fed(1580).on(t.of);
    t.due("feed to 1600", t.of.feed(0x20202020, 0x20202020, 0x20202020, 0x20202020, 0x20202020), 1600);
    t.due("status(0)", t.of.status(0), 0);
    t.due("all 1600 are a question", t.of.ask(), 18);
    t = new Trial("2: feed behind 0");
    t.due("feed to 20", t.of.feed(-1, 0, 0, 0, 0), 20);
  }

  /** 2: of each number the highest first. */
  private static void feedHighestFirst() {
    Trial t = Trial.told("2: the highest byte first", Twins.SMALL);
    int[] image = t.image();
    for (int at = 34; at < 98; at++) {
      image[at] = 255 - 3 * (at - 34);
    }
    t.tapeImage(image);
    t.due("on()", t.of.on(), true);
    for (int at = 0; at < 64; at++) {
      t.due("byte " + at, t.of.octetOf(at / 32, at % 32), 255 - 3 * at);
    }
  }

  /** 3: true; false, refused (0), if it has not so many, or n is below 0. */
  private static void endOfWhatIsThere() {
    Twins.refuses("3: end(-1)", Twins::busy, of -> of.end(-1) ? 1 : 0, 0, Twins.TAPE);
    Twins.refuses("3: end(MIN)", Twins::busy, of -> of.end(Integer.MIN_VALUE) ? 1 : 0, 0, Twins.TAPE);
    Twins.refuses("3: end(13) of 12", Twins::busy, of -> of.end(13) ? 1 : 0, 0, Twins.TAPE);
    Twins.refuses("3: end(MAX)", Twins::busy, of -> of.end(Integer.MAX_VALUE) ? 1 : 0, 0, Twins.TAPE);
    Twins.refuses("3: end(1) of nothing", of -> { }, of -> of.end(1) ? 1 : 0, 0, Twins.TAPE);
    Twins.looks("3: end(12) of 12", Twins::busy, of -> of.end(12) ? 1 : 0, 1);
    Twins.looks("3: end(0) of nothing", of -> { }, of -> of.end(0) ? 1 : 0, 1);
    Trial t = new Trial("3: the first n alone");
    Twins.busy(t.of);
    t.due("end(11)", t.of.end(11), true);
    t.due("end(12)", t.of.end(12), false);
    t.due("end(7)", t.of.end(7), true);
    t.due("the first 7 are a question: ask()", t.of.ask(), 14);
    fed(1600).on(t.of);
    t.due("end(1601)", t.of.end(1601), false);
    t.due("end(1600)", t.of.end(1600), true);
    t.due("end(0)", t.of.end(0), true);
    t.due("feed behind end(0)", t.of.feed(0, 0, 0, 0, 0), 20);
  }

  /** 4: The tape (it goes) is THE JOURNAL: how many STATEMENTS. */
  private static void journalTakesTheTape() {
    Trial t = new Trial("4: the tape goes");
    for (int statements : new int[] {1, 2, 39, 40}) {
      Twins.lay(t.of, Twins.SMALL + "noise 7;".repeat(statements - 1));
      t.due("journal()", t.of.journal(), statements);
      t.due("end(1)", t.of.end(1), false);
    }
    t.tape("journal 2");
    t.due("journal() with a fault", t.of.journal(), -1);
    t.due("end(1)", t.of.end(1), false);
    t.due("status(1)", t.of.status(1), 1);
  }

  /** 4: one without a STATEMENT has FAULT 1 at its length. */
  private static void journalWithoutAStatement() {
    Twins.faulty("4: nothing", 1, "^");
    Twins.faulty("4: one blank", 1, " ^");
    Twins.faulty("4: blanks", 1, " \n \n  ^");
    Twins.faulty("4: 1600 blanks", 1, " ".repeat(1600) + "^");
  }

  /** 4: NONE, refused (1), with a FAULT (all stays). */
  private static void journalWithAFault() {
    String marked = "journal 3 blocks 3 bytes 20;noise 100;takes 9;closes all;put 1 1 size 1;^x";
    Twins.faulty("4: all stays", 1, marked);
    Twins.faulty("4: all stays HALTED", Twins::halted, 1, marked);
    Twins.faulty("4: all stays WITHOUT GROUND", Twins::groundless, 1, marked);
    Twins.faulty("4: all stays of a new object", of -> { }, 1, marked);
  }

  /** 4: Without one all is as at first and told, nothing is KEPT, SEEN or can be undone. */
  private static void journalAnew() {
    Twins.Setup[] setups = {Twins::busy, Twins::halted, Twins::groundless};
    for (Twins.Setup setup : setups) {
      Trial t = new Trial("4: all as at first");
      setup.on(t.of);
      Twins.lay(t.of, "journal 3 blocks 2 bytes 17;put 5 6 size 7;");
      t.due("journal()", t.of.journal(), 2);
      t.has(3, 34, 0, 1, 0, 1, 0, 0, 0, 0, 0, 0, 0, 0, 0);
      t.due("undo()", t.of.undo(), false);
      t.due("kept(0, 0)", t.of.kept(0, 0), -1);
      for (int key = 0; key < 16; key++) {
        t.due("value(" + key + ")", t.of.value(key), -1);
        t.due("soon(" + key + ")", t.of.soon(key), key == 5 ? 6 : -1);
      }
      for (int who = 0; who < 8; who++) {
        t.due("waiter(" + who + ")", t.of.waiter(who), -1);
      }
      t.octets(0, 0, 0, 1, 0, 0, 74);
      for (int at = 5; at < 102; at++) {
        t.due("byte " + at, t.of.octetOf(at / 34, at % 34), 0);
      }
      t.due("place(0)", t.of.place(0), 0);
      t.due("place(1)", t.of.place(1), 5);
      t.due("place(2)", t.of.place(2), 1);
      t.due("recovers(0, 4)", t.of.recovers(0, 4), 0);
      t.due("the first of the free ones", t.of.segment(1, 2), 1);
      t.due("the serial that follows", serialThatFollows(t), 2);
    }
  }

  private static int serialThatFollows(Trial t) {
    for (int i = 0; i < 4; i++) {
      t.of.append(1, 1, 16);
      t.of.ticks(6);
    }
    return t.of.segment(1, 0);
  }

  /** 4: and as told: nothing of a text before it, nor of one with a fault. */
  private static void journalOfWhatIsTold() {
    String full = Twins.SMALL + "noise 100;closes all;takes 9;put 1 1 size 0;put 1 2 size 0;";
    Trial t = Trial.told("4: as told", full);
    for (int times = 0; times < 3; times++) {
      Twins.lay(t.of, Twins.SMALL + "noise 1;put 7 7 size 7;");
      t.due("journal()", t.of.journal(), 3);
      t.due("has(3)", t.of.has(3), 1);
      t.due("soon(1)", t.of.soon(1), -1);
      Twins.lay(t.of, Twins.SMALL + "put 8 8 size 8;");
      t.due("journal()", t.of.journal(), 2);
      t.due("has(3)", t.of.has(3), 1);
      t.due("soon(7)", t.of.soon(7), -1);
      t.due("chance(5), without noise", t.of.chance(5), 0);
      t.due("has(6), without closes", t.of.has(6), 0);
      t.of.ticks(1);
      t.due("has(7), without takes", t.of.has(7), 1);
      Twins.lay(t.of, full);
      t.due("journal()", t.of.journal(), 6);
      Twins.lay(t.of, Twins.SMALL + "noise 0;closes 1=2;takes 5;put 9 9 size 9;x");
      t.due("journal() with a fault", t.of.journal(), -1);
      t.due("has(3)", t.of.has(3), 2);
      t.due("chance(1), the noise staying", t.of.chance(1), 1);
      t.due("has(7), closes and takes staying", t.of.has(7), 9);
    }
  }

  /** 4: the seed stays. */
  private static void journalKeepsTheSeed() {
    String noisy = Twins.SMALL + "noise 100;";
    Trial told = Trial.told("4: the seed stays", noisy);
    told.of.seed(4711);
    Twins.lay(told.of, noisy);
    told.due("journal()", told.of.journal(), 2);
    Trial twin = Trial.told("4: the seed's twin", noisy);
    twin.of.seed(4711);
    Trial drawn = Trial.told("4: the seed as it was drawn", noisy);
    drawn.of.seed(4711);
    drawn.of.chance(3);
    Twins.lay(drawn.of, noisy);
    drawn.of.journal();
    told.due("chance(3)", told.of.chance(3), 3);
    twin.of.chance(3);
    boolean alike = true;
    for (int at = 0; at < 64; at++) {
      told.due("byte " + at, told.of.octetOf(at / 32, at % 32), twin.of.octetOf(at / 32, at % 32));
    }
    drawn.of.chance(3);
    twin.of.chance(3);
    for (int at = 0; at < 64; at++) {
      int by6 = twin.of.octetOf(at / 32, at % 32);
      int by3 = told.of.octetOf(at / 32, at % 32);
      int head = at == 1 ? 1 : at == 4 ? 74 : 0;
      alike &= drawn.of.octetOf(at / 32, at % 32) == (by6 == by3 ? head : 255 - head);
    }
    drawn.holds("the three ticks behind go on drawing", alike);
  }

  /** 5: Of the latest journal() or ask(): its FAULT (what 0; 0 without, and ahead of any), its place (1; NONE without). */
  private static void faultOfTheLatest() {
    Trial t = new Trial("5: ahead of any, and by the latest");
    fault(t, 0, -1);
    Twins.lay(t.of, "total 1");
    t.of.ask();
    fault(t, 0, -1);
    Twins.lay(t.of, "journal 9");
    t.of.journal();
    fault(t, 2, 8);
    Twins.lay(t.of, "total 1 1");
    t.of.ask();
    fault(t, 2, 8);
    Twins.tell(t.of, Twins.SMALL);
    fault(t, 0, -1);
    Twins.lay(t.of, "total 1 1");
    t.of.ask();
    fault(t, 1, 8);
    Twins.lay(t.of, 1, 2, 3, 4);
    t.of.see();
    Twins.lay(t.of, 1, 2, 3);
    t.of.on();
    t.of.append(-1, 0, 0);
    fault(t, 1, 8);
    Twins.lay(t.of, Twins.SMALL + "takes (((((((");
    t.of.journal();
    fault(t, 4, 40);
    Twins.lay(t.of, "first number>8");
    t.of.ask();
    fault(t, 0, -1);
    Twins.lay(t.of, "x");
    t.of.journal();
    fault(t, 1, 0);
  }

  private static void fault(Trial t, int fault, int place) {
    t.due("fault(0)", t.of.fault(0), fault);
    t.due("fault(1)", t.of.fault(1), place);
  }

  /** 5: NONE for another what. */
  private static void faultOfOthers() {
    for (int what : new int[] {-1, 2, Integer.MAX_VALUE, Integer.MIN_VALUE}) {
      Twins.looks("5: fault(" + what + ")", Twins::busy, of -> of.fault(what), -1);
      Twins.looks("5: fault(" + what + ")", of -> { }, of -> of.fault(what), -1);
    }
  }
}
