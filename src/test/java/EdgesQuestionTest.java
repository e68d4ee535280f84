/** The edges of promise 36 and of part IV of "Terms", a test a sentence: questions of all segments. */
public final class EdgesQuestionTest {
  public static void main(String[] args) {
    withoutAJournal();
    withAFault();
    theTapeGoes();
    firstAndLast();
    often();
    totalNotHeld();
    mostAndLeast();
    numbers();
    ofItsHead();
    ofItsBytes();
    ofTheTable();
    ofNumbersBelow0();
    tick();
    kindsOfQuestions();
    unknownWords();
    whatStandsBehindIt();
    fifthDigit();
    endsTooSoon();
    sixOpen();
    octetAndValueTillTheirPartEnds();
    Trial.close();
  }

  private static Twins.Call ask(String question) {
    return of -> {
      Twins.lay(of, question);
      return of.ask();
    };
  }

  private static void answers(String name, Twins.Setup setup, String question, long answer) {
    Trial t = new Trial(name + " [" + question + "]");
    setup.on(t.of);
    t.due("ask()", ask(question).on(t.of), answer);
    t.due("fault(0)", t.of.fault(0), 0);
    t.due("fault(1)", t.of.fault(1), -1);
    t.due("end(1)", t.of.end(1), false);
  }

  /** 36: NOTHING without a journal (the tape goes, FAULTS stay as they are). */
  private static void withoutAJournal() {
    for (String question : new String[] {"total 1", "first all", "", "x", "total ((((((("}) {
      Trial t = new Trial("36: without a journal");
      t.due("ask()", ask(question).on(t.of), GroupJournal.NOTHING);
      t.due("fault(0)", t.of.fault(0), 0);
      t.due("fault(1)", t.of.fault(1), -1);
      t.due("end(1)", t.of.end(1), false);
      Twins.lay(t.of, "journal 7");
      t.of.journal();
      t.due("ask()", ask(question).on(t.of), GroupJournal.NOTHING);
      t.due("fault(0)", t.of.fault(0), 2);
      t.due("fault(1)", t.of.fault(1), 8);
      for (int what = 0; what < 7; what++) {
        t.due("status(" + what + ")", t.of.status(what), what <= 1 ? 1 : 0);
      }
    }
  }

  /** 36: NOTHING with a FAULT. */
  private static void withAFault() {
    Twins.faultyQuestion("36: nothing", 1, "^");
    Twins.faultyQuestion("36: blanks", 1, " \n ^");
    Twins.faultyQuestion("36: a fault", 1, "total 1+^");
    Twins.faultyQuestion("36: a fault", 4, "total ((((((^(1");
  }

  /** 36: The tape (it goes) is a QUESTION: its answer. */
  private static void theTapeGoes() {
    answers("36: the tape goes", Twins::busy, "total 1", 2);
    answers("36: blanks", Twins::busy, " \n total \n 1 \n ", 2);
    answers("36: 1600 bytes", Twins::busy, "total 1" + " ".repeat(1593), 2);
    answers("36: HALTED", Twins::halted, "total serial", 1);
  }

  /** 36: NONE of first, last, when its TEST holds for none. */
  private static void firstAndLast() {
    Twins.Setup four = Twins.told(Twins.GREAT);
    answers("36: none", four, "first number>3", -1);
    answers("36: none", four, "last number<0", -1);
    answers("36: none", four, "first not all", -1);
    answers("36: none", four, "last not all", -1);
    answers("36: all", four, "first all", 0);
    answers("36: all", four, "last all", 3);
    answers("36: the first alone", four, "first number=0", 0);
    answers("36: the first alone", four, "last number=0", 0);
    answers("36: the last alone", four, "first number=3", 3);
    answers("36: the last alone", four, "last number=3", 3);
    answers("36: two", four, "first number=1 or number=2", 1);
    answers("36: two", four, "last number=1 or number=2", 2);
    answers("36: the last of two", Twins.told(Twins.SMALL), "last all", 1);
  }

  /** IV: for how many. */
  private static void often() {
    Twins.Setup four = Twins.told(Twins.GREAT);
    answers("IV: none", four, "often number>3", 0);
    answers("IV: one", four, "often number>2", 1);
    answers("IV: all", four, "often all", 4);
  }

  /** IV: total SUM (of all together, not held). */
  private static void totalNotHeld() {
    Twins.Setup four = Twins.told(Twins.GREAT);
    answers("IV: four millions", four, "total 1000*1000", 4000000);
    answers("IV: four millions", four, "total 9999*9999", 4000000);
    answers("IV: four millions below 0", four, "total 0-1000*1001", -4000000);
    answers("IV: three", Twins.told("journal 3 blocks 2 bytes 16;"), "total 1000*1000", 3000000);
    answers("IV: below 0", four, "total 0-min(number,1)", -3);
  }

  /** IV: most SUM, least SUM (the greatest, the least of all). */
  private static void mostAndLeast() {
    Twins.Setup four = Twins.told(Twins.GREAT);
    answers("IV: most", four, "most number", 3);
    answers("IV: least", four, "least number", 0);
    answers("IV: most below 0", four, "most 0-number-1", -1);
    answers("IV: least below 0", four, "least 0-number-1", -4);
    answers("IV: a million", four, "most 1000*1000+1", 1000000);
    answers("IV: a million", four, "least 1000*1000+1", 1000000);
    answers("IV: a million below 0", four, "most 0-1000*1000-1", -1000000);
    answers("IV: a million below 0", four, "least 0-1000*1000-1", -1000000);
    answers("IV: in the middle", four, "most number*(3-number)", 2);
  }

  /** I, IV: N; SUM, PRODUCT, TEST as in I. */
  private static void numbers() {
    Twins.Setup two = Twins.told(Twins.SMALL);
    answers("IV: N", two, "most 9999", 9999);
    answers("IV: N", two, "most 0000", 0);
    answers("IV: / gives the greatest not above", two, "most (0-7)/2", -4);
    answers("IV: / by 0", two, "most (0-7)/0", 0);
    answers("IV: from the left on", two, "most 9-3-2+7/2*2", 10);
    answers("IV: min, max", two, "most min(3,max(1,2))", 2);
    answers("IV: above a million", two, "most 1000*1000+1-1", 999999);
    answers("IV: tests", two, "often not [1>1 or 1<1] and 1=1 and all", 2);
  }

  private static Twins.Setup heads(int serial, int first) {
    return of -> {
      Twins.tell(of, Twins.SMALL);
      int[] image = new int[of.image()];
      for (int i = 0; i < image.length; i++) {
        image[i] = of.octet(i);
      }
      Trial.head(image, 32, serial, first);
      Trial.frame(image, 37, serial, 1, 1);
      image[98] = Trial.check(139, image, 0, 98);
      Twins.lay(of, image);
      of.on();
    };
  }

  /** IV: serial, first number by its HEAD, how many right FRAMES, 0 each without a right HEAD. */
  private static void ofItsHead() {
    answers("IV: serial", heads(65535, 9), "most serial", 65535);
    answers("IV: first", heads(9, 65535), "most first", 65535);
    answers("IV: frames", heads(9, 9), "most frames", 1);
    answers("IV: serial without", Twins.told(Twins.SMALL), "least serial", 0);
    answers("IV: serial 0 is no right one", heads(0, 9), "most serial*10+first*100+frames*1000", 10);
    Twins.Setup wrong = of -> {
      heads(65535, 65535).on(of);
      of.flip(1, 4);
    };
    answers("IV: serial, the CHECK being wrong", wrong, "most serial", 1);
    answers("IV: first, the CHECK being wrong", wrong, "most first", 0);
    answers("IV: frames, the CHECK being wrong", wrong, "most frames", 0);
    answers("IV: number", wrong, "total number", 1);
  }

  /** IV: its byte of that number: 0 without. */
  private static void ofItsBytes() {
    Twins.Setup all255 = of -> {
      Twins.tell(of, Twins.SMALL);
      for (int at : new int[] {0, 31}) {
        of.flip(0, at);
        of.flip(1, at);
      }
    };
    answers("IV: the first byte", all255, "total octet 0", 510);
    answers("IV: the last byte", all255, "total octet 31", 510);
    answers("IV: behind the last", all255, "total octet 32", 0);
    answers("IV: far behind it", all255, "total octet 9999", 0);
    answers("IV: a million behind it", all255, "total octet (1000*1000)", 0);
    answers("IV: before the first", all255, "total octet (0-1)", 0);
    answers("IV: before the first", all255, "total octet (0-32)", 0);
    answers("IV: of a byte", all255, "most octet octet 3", 255);
    Twins.Setup great = of -> {
      Twins.tell(of, Twins.GREAT);
      of.flip(3, 127);
    };
    answers("IV: the last of the greatest", great, "most octet 127", 255);
    answers("IV: behind the last of the greatest", great, "most octet 128", 0);
    Twins.Setup smaller = of -> {
      great.on(of);
      ask("total octet 127").on(of);
      Twins.tell(of, Twins.SMALL);
    };
    answers("IV: a smaller one behind it", smaller, "most octet 127", 0);
  }

  /** IV: the VALUE in the TABLE of that KEY: 0 without. */
  private static void ofTheTable() {
    Twins.Setup two = of -> {
      Twins.tell(of, Twins.SMALL + "closes all;takes 1;put 0 7 size 0;put 15 999 size 0;");
      of.ticks(2);
      of.append(1, 5, 0);
    };
    answers("IV: key 0", two, "most value 0", 7);
    answers("IV: key 15", two, "most value 15", 999);
    answers("IV: key 1, not ACKNOWLEDGED", two, "most value 1", 0);
    answers("IV: key 14, none", two, "least value 14", 0);
    answers("IV: key 16", two, "most value 16", 0);
    answers("IV: key 9999", two, "most value 9999", 0);
    answers("IV: key -1", two, "most value (0-1)", 0);
    answers("IV: for each segment", two, "total value 15", 1998);
    Twins.Setup flipped = of -> {
      two.on(of);
      of.flip(0, 0);
      of.flip(1, 0);
    };
    answers("IV: key 16, byte 0 being none", flipped, "most value 16", 0);
    answers("IV: key -1", flipped, "most value (0-1)", 0);
    answers("IV: byte -1, key 15 being none", flipped, "most octet (0-1)", 0);
  }

  /** IV: 0 without, for each number below 0 and beyond the last. */
  private static void ofNumbersBelow0() {
    Twins.Setup full = of -> {
      Twins.tell(of, Twins.SMALL + "closes all;takes 1;" + "put 15 999 size 0;");
      of.ticks(7);
      for (int at = 0; at < 64; at++) {
        if (of.octetOf(at / 32, at % 32) == 0) {
          of.flip(at / 32, at % 32);
        }
      }
    };
    Trial t = new Trial("IV: below 0");
    full.on(t.of);
    for (int n = 1; n <= 40; n++) {
      t.due("value -" + n, t.ask("total value (0-" + n + ")"), 0);
      t.due("octet -" + n, t.ask("total octet (0-" + n + ")"), 0);
    }
    t = new Trial("IV: beyond the last");
    full.on(t.of);
    for (int n = 0; n <= 40; n++) {
      t.due("value " + (16 + n), t.ask("total value " + (16 + n)), 0);
      t.due("octet " + (32 + n), t.ask("total octet " + (32 + n)), 0);
    }
  }

  /** IV: tick. */
  private static void tick() {
    answers("IV: tick 0", Twins.told(Twins.SMALL), "most tick", 0);
    answers("IV: tick 999", Twins.atTick(999, Twins.SMALL), "most tick", 999);
  }

  /** IV: first TEST, last TEST, often TEST, total SUM, most SUM, least SUM. */
  private static void kindsOfQuestions() {
    for (String kind : new String[] {"first", "last", "often"}) {
      Twins.faultyQuestion("IV: a TEST is asked", 1, kind + " 1^");
      Twins.faultyQuestion("IV: a TEST is asked", 1, kind + "^");
      Twins.faultyQuestion("IV: a blank is asked", 1, kind + "^1>0");
      Twins.faultyQuestion("IV: a word is whole", 1, "^" + kind + "s all");
    }
    for (String kind : new String[] {"total", "most", "least"}) {
      Twins.faultyQuestion("IV: a SUM is asked", 1, kind + " ^all");
      Twins.faultyQuestion("IV: a SUM is asked", 1, kind + " 1^>0");
      Twins.faultyQuestion("IV: a SUM is asked", 1, kind + "^");
      Twins.faultyQuestion("IV: a blank is asked", 1, kind + "^1");
      Twins.faultyQuestion("IV: a word is whole", 1, "^" + kind + "s 1");
    }
    answers("IV: no blank is asked", Twins.told(Twins.SMALL), "first[all]", 0);
    answers("IV: no blank is asked", Twins.told(Twins.SMALL), "total(1)", 2);
    answers("IV: first of first", Twins.told(Twins.SMALL), "first first=first", 0);
  }

  /** IV: 1 as in I (an unknown word at its first byte). */
  private static void unknownWords() {
    String[] marked = {"^fir all", "^sum 1", "^journal", "^1", "^(1)", "^all", "total ^records", "total ^payload", "total ^age",
      "total ^waiters", "total ^put", "total ^numbers", "total ^seria", "total ^firsts", "total ^frame", "total ^octets 1",
      "total ^values 1", "total ^ticks", "total ^all", "total ^not 1", "first ^records>1", "first number>0 ^xor all",
      "first number>0 ^an", "total octet ^x", "total value ^all", "total 1+^nummer"};
    for (String one : marked) {
      Twins.faultyQuestion("IV 1: unknown", 1, one);
    }
    Twins.faultyQuestion("IV 1: word and number", 1, "total octet^1");
    Twins.faultyQuestion("IV 1: word and number", 1, "total value^1");
    Twins.faultyQuestion("IV 1: word and number", 1, "total number^1");
    Twins.faultyQuestion("IV 1: a tab is no blank", 1, "total^\t1");
  }

  /** IV: what stands behind it, too. */
  private static void whatStandsBehindIt() {
    String[] marked = {"total 1^;", "total 1 ^1", "total 1 ^number", "total 1 ^total 1", "total (1)^)", "total 1^,1", "total 1 \n^\u0000",
      "first all^;", "first all ^all", "first all ^not all", "first all^]", "first 1>0 ^1", "first 1>0^>0", "first 1>0^and all",
      "first 1 ^or all", "first 1 ^and all", "first not ^or all", "first 1>0 and ^or all", "first 1>0 or ^and all"};
    for (String one : marked) {
      Twins.faultyQuestion("IV 1: behind it", 1, one);
    }
  }

  /** I, IV: where a number is asked, a 5th digit at itself. */
  private static void fifthDigit() {
    Twins.faultyQuestion("IV 1: a 5th digit", 1, "total 0000^1");
    Twins.faultyQuestion("IV 1: a 5th digit", 1, "total octet 1234^56");
    Twins.faultyQuestion("IV 1: a number whole", 1, "total 1 ^12345");
  }

  /** I, IV: at the text's length, if it ends too soon. */
  private static void endsTooSoon() {
    String[] texts = {"first", "total", "total (", "total (1", "total 1+", "total 1*", "total min", "total min(", "total min(1",
      "total min(1,", "total min(1,2", "total octet", "total value", "first not", "first [", "first [all", "first all and",
      "first all or", "first 1", "first 1>", "first [1>0"};
    for (String text : texts) {
      Twins.faultyQuestion("IV 1: ends too soon", 1, text + "^");
      Twins.faultyQuestion("IV 1: ends too soon", 1, text + " \n^");
    }
  }

  /** IV: 4 the 7th of ( [ not octet value that is open at once, at it. */
  private static void sixOpen() {
    Twins.Setup two = Twins.told(Twins.SMALL);
    String[] words = {"octet ", "value "};
    for (String word : words) {
      answers("IV 4: six", two, "total " + word.repeat(6) + "1", word.equals("octet ") ? 1 : 0);
      Twins.faultyQuestion("IV 4: seven", 4, "total " + word.repeat(6) + "^" + word + "1");
      Twins.faultyQuestion("IV 4: seven with (", 4, "total " + word.repeat(6) + "^(1)");
      Twins.faultyQuestion("IV 4: seven with min", 4, "total " + word.repeat(6) + "min^(1,2)");
      Twins.faultyQuestion("IV 4: seven behind (", 4, "total ((((((^" + word + "1");
      Twins.faultyQuestion("IV 4: seven behind not [", 4, "first not [not [not [^" + word + "1");
    }
    answers("IV 4: six (", two, "total ((((((1))))))", 2);
    Twins.faultyQuestion("IV 4: seven (", 4, "total ((((((^(1)))))))");
    answers("IV 4: six [", two, "often [[[[[[all]]]]]]", 2);
    Twins.faultyQuestion("IV 4: seven [", 4, "often [[[[[[^[all]]]]]]]");
    answers("IV 4: six not", two, "often not not not not not not all", 2);
    Twins.faultyQuestion("IV 4: seven not", 4, "often not not not not not not ^not all");
    answers("IV 4: closed ones count no more", two, "total min(1,2)+max(1,2)*min(1,2)+max(1,2)*min(1,2)+min(1,2)+max(1,2)*min(1,2)", 16);
    answers("IV 4: closed ones count no more", two, "often [all] and [all] and [all] and [all] and [all] and [all] and [all]", 2);
    answers("IV 4: closed ones count no more", two, "total (1)+(1)+(1)+(1)+(1)+(1)+(1)", 14);
    answers("IV 4: six of all", two, "often not [value octet max((1),2)=0]", 0);
    Twins.faultyQuestion("IV 4: seven of all", 4, "often not [value octet max((1),(^(2");
  }

  /** IV: not until its FACT, octet, value until its PART ends. */
  private static void octetAndValueTillTheirPartEnds() {
    Twins.Setup two = Twins.told(Twins.SMALL);
    answers("IV 4: closed behind its PART", two, "total octet octet octet octet octet octet 1+octet octet octet octet octet octet 1", 2);
    answers("IV 4: closed behind its PART", two, "total octet 1*octet 1*octet 1*octet 1*octet 1*octet 1*octet 1*octet 1", 1);
    answers("IV 4: closed behind its PART", two, "total value value (1)+value value value value value value 1", 0);
    answers("IV 4: closed behind its FACT", two, "often not not not not not not all and octet octet octet octet octet octet 1<9", 2);
    Twins.faultyQuestion("IV 4: open till its FACT ends", 4, "often not not not not not not ^octet 1");
    Twins.faultyQuestion("IV 4: open till its FACT ends", 4, "often not not not not not not 1>^octet 1");
    Twins.faultyQuestion("IV 4: its PART alone", 4, "total (((((octet 1+octet ^octet 1");
    answers("IV 4: its PART alone", two, "total (((((octet 1+octet 1)))))", 2);
  }
}
