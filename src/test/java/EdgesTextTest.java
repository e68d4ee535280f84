/** The edges of part I of "Terms", a test a sentence: a journal's text, TESTS and SUMS, FAULTS. */
public final class EdgesTextTest {
  private static final String BASE = Twins.SMALL;
  /** One that waits at tick 0, so that a TEST is asked in the first tick. */
  private static final String ONE = "put 1 2 size 3;";

  public static void main(String[] args) {
    fortyStatements();
    asLongAsTheTape();
    theFirstAndItAlone();
    segmentsBlocksBytes();
    keysValuesSizes();
    appendedInItsOrder();
    oneEach();
    noise();
    digits();
    division();
    heldAtAMillion();
    fromTheLeftOn();
    tests();
    factsOfATest();
    factsOfTakes();
    without();
    ownWords();
    blanks();
    firstByteWithWhichNoTextGoesOn();
    wordsAndNumbersWhole();
    fifthDigit();
    endsTooSoon();
    numberThatCantBe();
    sixOpen();
    tooManyOfAKind();
    firstAlongTheText();
    Trial.close();
  }

  /** I: { STATEMENT ; } (40 at most); 5: a 41st STATEMENT (whatever stands there), at its first byte. */
  private static void fortyStatements() {
    String forty = BASE + "noise 0;".repeat(39);
    Twins.stands("I: 39 statements", 39, BASE + "noise 0;".repeat(38));
    Twins.stands("I: 40 statements", 40, forty);
    Twins.stands("I: 40 statements and blanks", 40, forty + " \n ");
    String[] there = {"noise 0;", "closes all;", "journal 2 blocks 2 bytes 16;", ";", "x", "9", "[", "\u0000", "\u00ff"};
    for (String what : there) {
      Twins.faulty("I: a 41st statement", 5, forty + "^" + what);
    }
    Twins.faulty("I: a 41st statement behind blanks", 5, forty + " \n^put 99");
    Twins.faulty("I: the 40th is none", 1, BASE + "noise 0;".repeat(38) + "^x;noise 0;");
    Twins.faulty("I: the 40th does not end", 1, BASE + "noise 0;".repeat(38) + "noise 0^");
  }

  /** 2, I: a text of 1600 bytes, of which each is one of a FORMULA, again and again. */
  private static void asLongAsTheTape() {
    Trial t = new Trial("I: 1600 bytes");
    String takes = BASE + "put 1 1 size 0;closes all;takes 1";
    String sum = takes + "+1".repeat(98) + "-0".repeat((1600 - takes.length() - 197) / 2);
    sum = sum + ";" + " ".repeat(1599 - sum.length());
    String test = BASE + "closes 1=2" + " or 1=2".repeat(219) + " or 1=1; ";
    for (int times = 0; times < 2; times++) {
      t.tape(sum);
      t.due("journal()", t.of.journal(), 4);
      t.of.ticks(1);
      t.due("has(7)", t.of.has(7), 99);
      t.tape(test + ONE);
      t.due("journal()", t.of.journal(), 3);
      t.of.ticks(1);
      t.due("has(7)", t.of.has(7), 1);
    }
    t = Trial.told("I: without takes, behind the longest one", BASE + "takes 1" + "+1".repeat(782) + ";");
    for (int times = 0; times < 20; times++) {
      t.tape(BASE + "closes all;put 1 1 size 13;");
      t.due("journal()", t.of.journal(), 3);
      t.of.ticks(1);
      t.due("has(7)", t.of.has(7), 2);
    }
    t = Trial.told("IV: 1600 bytes", BASE);
    for (int times = 0; times < 3; times++) {
      t.tape("total 1" + "+1".repeat(796));
      t.due("ask()", t.of.ask(), 2 * 797);
    }
    t.tape("total " + "1*".repeat(796) + "1x");
    t.due("ask()", t.of.ask(), GroupJournal.NOTHING);
    t.due("fault(1)", t.of.fault(1), 1599);
  }

  /** I: journal N blocks N bytes N (the first STATEMENT, and it alone). */
  private static void theFirstAndItAlone() {
    Twins.faulty("I: another first", 1, "^noise 1;" + BASE);
    Twins.faulty("I: another first", 1, "^put 1 2 size 3;");
    Twins.faulty("I: an empty first", 1, "^;");
    Twins.faulty("I: a second journal", 1, BASE + "^" + BASE);
    Twins.faulty("I: a second journal behind others", 1, BASE + "noise 1;^" + BASE);
    Twins.faulty("I: an empty second", 1, BASE + "^;");
  }

  /** I: 2 .. 4 SEGMENTS; 2 .. 4 BLOCKS of each; 16 .. 32 bytes of one. */
  private static void segmentsBlocksBytes() {
    for (int segments = 2; segments <= 4; segments++) {
      for (int blocks = 2; blocks <= 4; blocks++) {
        for (int bytes : new int[] {16, 17, 31, 32}) {
          Trial t = Twins.stands("I: the shape", 1, "journal " + segments + " blocks " + blocks + " bytes " + bytes + ";");
          t.due("has(0)", t.of.has(0), segments);
          t.due("has(1)", t.of.has(1), blocks * bytes);
        }
      }
    }
    for (int wrong : new int[] {0, 1, 5, 6, 9999}) {
      Twins.faulty("I: segments", 2, "journal ^" + wrong + " blocks 2 bytes 16;");
      Twins.faulty("I: blocks", 2, "journal 2 blocks ^" + wrong + " bytes 16;");
    }
    for (int wrong : new int[] {0, 15, 33, 160, 9999}) {
      Twins.faulty("I: bytes of a block", 2, "journal 2 blocks 2 bytes ^" + wrong + ";");
    }
  }

  /** I: KEY 0 .. 15, VALUE 0 .. 999, SIZE 0 .. 40. */
  private static void keysValuesSizes() {
    int[][] records = {{0, 0, 0}, {15, 999, 40}, {15, 0, 39}, {0, 999, 1}};
    for (int[] record : records) {
      Trial t = Twins.stands("I: put", 2, Twins.GREAT + "put " + record[0] + " " + record[1] + " size " + record[2] + ";");
      t.due("has(5)", t.of.has(5), 1);
      for (int what = 0; what < 3; what++) {
        t.due("waiting(0, " + (what + 1) + ")", t.of.waiting(0, what + 1), record[what]);
      }
    }
    Twins.faulty("I: KEY 16", 2, BASE + "put ^16 0 size 0;");
    Twins.faulty("I: KEY 9999", 2, BASE + "put ^9999 0 size 0;");
    Twins.faulty("I: VALUE 1000", 2, BASE + "put 0 ^1000 size 0;");
    Twins.faulty("I: VALUE 9999", 2, BASE + "put 0 ^9999 size 0;");
    Twins.faulty("I: SIZE 41", 2, Twins.GREAT + "put 0 0 size ^41;");
    Twins.faulty("I: SIZE 9999", 2, BASE + "put 0 0 size ^9999;");
    Twins.faulty("I: KEY -1", 1, BASE + "put ^-1 0 size 0;");
  }

  /** I: appended, when the whole text is read, in its order; what can't be is not. */
  private static void appendedInItsOrder() {
    Trial t = Twins.stands("I: 16 appended", 18, BASE + counted(17));
    t.due("has(3)", t.of.has(3), 16);
    for (int k = 0; k < 16; k++) {
      t.due("waiting(" + k + ", 0)", t.of.waiting(k, 0), k);
      t.due("waiting(" + k + ", 2)", t.of.waiting(k, 2), k);
    }
    t.due("soon(1), the 17th not", t.of.soon(1), 15);
    t.due("status(2)", t.of.status(2), 0);
    t.due("has(13)", t.of.has(13), 0);
    t = Twins.stands("I: 15 appended", 16, BASE + counted(15));
    t.due("has(3)", t.of.has(3), 15);
    t = Twins.stands("I: a size without room", 4, BASE + "put 1 1 size 17;put 2 2 size 16;put 3 3 size 40;");
    t.due("has(3)", t.of.has(3), 1);
    t.due("waiting(0, 0)", t.of.waiting(0, 0), 0);
    t.due("waiting(0, 1)", t.of.waiting(0, 1), 2);
    t = Twins.stands("I: ahead of what tells how", 4, BASE + "put 1 7 size 0;closes all;takes 5;");
    t.of.ticks(1);
    t.due("has(7)", t.of.has(7), 5);
  }

  private static String counted(int puts) {
    StringBuilder text = new StringBuilder();
    for (int i = 0; i < puts; i++) {
      text.append("put 1 ").append(i).append(" size 0;");
    }
    return text.toString();
  }

  /** I: closes TEST, takes SUM (one each); 5: a second closes, takes, at its first byte. */
  private static void oneEach() {
    Twins.stands("I: one each", 3, BASE + "closes all;takes 1;");
    Twins.stands("I: one each", 3, BASE + "takes 1;closes all;");
    Twins.faulty("I: a second closes", 5, BASE + "closes all;^closes all;");
    Twins.faulty("I: a second takes", 5, BASE + "takes 1; ^takes 1;");
    Twins.faulty("I: a second closes, apart", 5, BASE + "closes all;takes 1;noise 1;^closes x");
    Twins.faulty("I: a second takes, apart", 5, BASE + "takes 1;closes all;put 1 1 size 1;^takes(((((((");
  }

  /** I: noise N (0 .. 100; the last one counts, 0 without). */
  private static void noise() {
    flips("I: noise 0", "noise 0;", 0);
    flips("I: noise 100", "noise 100;", 100);
    flips("I: without noise", "", 0);
    flips("I: the last one counts", "noise 100;noise 100;noise 0;", 0);
    flips("I: the last one counts", "noise 0;noise 100;", 100);
    Twins.faulty("I: noise 101", 2, BASE + "noise ^101;");
    Twins.faulty("I: noise 9999", 2, BASE + "noise ^9999;");
  }

  private static void flips(String name, String noise, int flips) {
    Trial t = Trial.told(name, BASE + noise);
    t.due("chance(100)", t.of.chance(100), flips);
  }

  /** I: N (1 to 4 digits). */
  private static void digits() {
    holds("9999+1=10*1000", true);
    holds("0000=0 and 0001=1 and 0010=10 and 0999=999", true);
    holds("9=0009", true);
    Twins.stands("I: four digits", 3, "journal 0002 blocks 0003 bytes 0016;put 0015 0999 size 0040;noise 0100;");
    Twins.faulty("I: no digit", 1, BASE + "takes ^;");
  }

  /** Whether a TEST holds in the tick in which it is asked. */
  private static void holds(String test, boolean holds) {
    Trial t = Twins.stands("I: closes", 4, BASE + ONE + "takes 9;closes " + test + ";");
    t.of.ticks(1);
    t.due("has(5)", t.of.has(5), holds ? 0 : 1);
    t.due("has(7)", t.of.has(7), holds ? 9 : 0);
  }

  /** I: / gives the greatest whole number not above, by 0 it gives 0. */
  private static void division() {
    holds("7/2=3 and 8/2=4 and 9/2=4 and 1/2=0 and 0/2=0", true);
    holds("(0-7)/2=0-4 and (0-8)/2=0-4 and (0-9)/2=0-5 and (0-1)/2=0-1", true);
    holds("7/(0-2)=0-4 and 8/(0-2)=0-4 and 1/(0-9999)=0-1", true);
    holds("(0-7)/(0-2)=3 and (0-8)/(0-2)=4 and (0-1)/(0-2)=0", true);
    holds("7/0=0 and 0/0=0 and (0-7)/0=0 and 7/(1-1)=0", true);
    holds("7/0>0 or 7/0<0", false);
  }

  /** I: each sum, difference, product above 10 to the 6 is that, below -10 to the 6 likewise. */
  private static void heldAtAMillion() {
    // 999 * 1001 is 999999, the last one below
    holds("1000*1000-1=999*1001 and 1000*1000>999*1001", true);
    holds("999*1001+1=1000*1000 and 999*1001+2=1000*1000", true);
    holds("1000*1000+1-1=999*1001", true);
    holds("1000*1000-(0-1)-1=999*1001", true);
    holds("1001*1000-1=999*1001 and 9999*9999-1=999*1001", true);
    holds("0-1000*1000+1=0-999*1001 and 0-1000*1000<0-999*1001", true);
    holds("0-999*1001-1=0-1000*1000 and 0-999*1001-2=0-1000*1000", true);
    holds("0-1000*1000-1+1=0-999*1001", true);
    holds("0-1000*1000+(0-1)+1=0-999*1001", true);
    holds("(0-1001)*1000+1=0-999*1001 and (0-9999)*9999+1=0-999*1001", true);
    holds("(0-1000)*(0-1001)-1=999*1001", true);
    holds("9999*9999*9999*9999-1=999*1001", true);
  }

  /** I: All from the left on. */
  private static void fromTheLeftOn() {
    holds("9-3-2=4 and 9-3+2=8", true);
    holds("100/10/5=2 and 7/2*2=6 and 2*7/2=7", true);
    holds("2+3*4=14 and 20-6/2=17 and (2+3)*4=20", true);
    holds("1=2 and 1=2 or 1=1", true);
    holds("1=1 or 1=1 and 1=2", true);
    holds("[1=1 or 1=1] and 1=2", false);
  }

  /** I: FACT: not FACT; [ TEST ]; all; SUM SIGN SUM, SIGN < or > or = ; min; max. */
  private static void tests() {
    holds("all", true);
    holds("not all", false);
    holds("not not all", true);
    holds("not all or all", true);
    holds("not [all or all]", false);
    holds("1<2", true);
    holds("2<2", false);
    holds("3<2", false);
    holds("3>2", true);
    holds("2>2", false);
    holds("1>2", false);
    holds("2=2", true);
    holds("1=2", false);
    holds("2=1", false);
    holds("min(1,2)=1 and min(2,1)=1 and min(2,2)=2 and max(1,2)=2 and max(2,1)=2", true);
    holds("min(0-5,5)=0-5 and max(0-5,0-6)=0-5", true);
  }

  /** I: The TICK; how many RECORDS wait, of payload; in closes: how many TICKS ago the first was appended; WAITERS. */
  private static void factsOfATest() {
    holds("tick=0 and records=1 and payload=6 and age=0 and waiters=0", true);
    Trial t = Twins.stands("I: facts of closes", 3, BASE
        + "takes 2;closes tick=9 and records=2 and payload=3+19 and age=4 and waiters=8;");
    t.of.ticks(5);
    t.of.append(1, 1, 0);
    t.of.ticks(4);
    t.of.append(1, 1, 16);
    for (int who = 0; who < 8; who++) {
      t.of.waits(who, who / 4);
    }
    t.of.ticks(1);
    t.due("has(7)", t.of.has(7), 2);
  }

  /** I: in takes those of the GROUP alone. */
  private static void factsOfTakes() {
    Trial t = Twins.stands("I: facts of takes", 3, "journal 3 blocks 2 bytes 20;takes tick*7+records*10+payload;closes tick=1;");
    t.of.ticks(1);
    t.of.append(1, 1, 0);
    t.of.append(1, 1, 1);
    t.of.append(1, 1, 2);
    // one after the other: 7 + 13; at tick 21: 147 and so 99
    t.due("rule(3, 0)", t.of.rule(3, 0), 1 + 7 + 30 + 12);
    t.of.ticks(1);
    t.due("has(7)", t.of.has(7), 7 + 30 + 12);
    t = Twins.stands("I: of the group alone", 3, "journal 3 blocks 2 bytes 20;takes records*10+payload;closes 1=2;");
    t.of.append(1, 1, 0);
    t.of.append(1, 1, 1);
    t.of.append(1, 1, 2);
    t.due("rule(1, 1)", t.of.rule(1, 1), 14 + 14 + 14 + 14 + 14 + 15);
    t.due("rule(2, 1)", t.of.rule(2, 1), 28 + 28 + 28 + 15);
    Twins.faulty("I: age in takes", 1, BASE + "takes ^age;");
    Twins.faulty("I: waiters in takes", 1, BASE + "takes 1+^waiters;");
    for (String word : new String[] {"number", "serial", "first", "frames", "octet 1", "value 1"}) {
      Twins.faulty("I: of questions alone", 1, BASE + "takes ^" + word + ";");
      Twins.faulty("I: of questions alone", 1, BASE + "closes ^" + word + ">0;");
    }
  }

  /** I: Without: closes is records>3 or age>4, takes is 1+payload/16. */
  private static void without() {
    Trial t = Twins.stands("I: records 3", 5, BASE + "takes 9;" + ONE.repeat(3));
    t.of.ticks(1);
    t.due("has(5)", t.of.has(5), 3);
    t = Twins.stands("I: records 4", 6, Twins.GREAT + "takes 9;" + ONE.repeat(4));
    t.of.ticks(1);
    t.due("has(5)", t.of.has(5), 0);
    t = Twins.stands("I: age 4", 3, BASE + "takes 9;" + ONE);
    t.of.ticks(5);
    t.due("has(5), of age 4 at tick 4", t.of.has(5), 1);
    t.of.ticks(1);
    t.due("has(5), of age 5 at tick 5", t.of.has(5), 0);
    for (int size : new int[] {0, 12, 13, 28, 29, 40}) {
      t = Twins.stands("I: takes without, size " + size, 3, Twins.GREAT + "closes all;put 1 1 size " + size + ";");
      t.of.ticks(1);
      t.due("has(7)", t.of.has(7), size < 13 ? 1 : size < 29 ? 2 : 3);
    }
  }

  /** I: OWN WORDS. */
  private static void ownWords() {
    Twins.stands("I: all words", 5, "journal 2 blocks 2 bytes 16;put 1 1 size 0;closes not all and tick+records+payload+age"
        + "+waiters=1 or 1=1;takes min(1,2)+max(tick,records)+payload;noise 1;");
    String[] wrong = {"^journa 2 blocks 2 bytes 16;", "^journall 2 blocks 2 bytes 16;", "journal 2 ^block 2 bytes 16;",
      "journal 2 ^blockss 2 bytes 16;", "journal 2 blocks 2 ^byte 16;", "journal 2 blocks 2 ^bytess 16;", BASE + "^pu 1 1 size 0;",
      BASE + "^putt 1 1 size 0;", BASE + "put 1 1 ^siz 0;", BASE + "put 1 1 ^sizes 0;", BASE + "^close all;", BASE + "^closess all;",
      BASE + "^take 1;", BASE + "^takess 1;", BASE + "^nois 1;", BASE + "^noises 1;", BASE + "closes ^al;", BASE + "closes ^alll;",
      BASE + "closes ^no all;", BASE + "closes ^nott all;", BASE + "closes all ^an all;", BASE + "closes all ^ands all;",
      BASE + "closes all ^o all;", BASE + "closes all ^orr all;", BASE + "takes ^mi(1,2);", BASE + "takes ^mins(1,2);",
      BASE + "takes ^ma(1,2);", BASE + "takes ^maxx(1,2);", BASE + "takes ^tic;", BASE + "takes ^ticks;", BASE + "takes ^record;",
      BASE + "takes ^recordss;", BASE + "takes ^payloa;", BASE + "takes ^payloads;", BASE + "closes ^ag>1;", BASE + "closes ^ages>1;",
      BASE + "closes ^waiter>1;", BASE + "closes ^waiterss>1;", "^Journal 2 blocks 2 bytes 16;", BASE + "^PUT 1 1 size 0;"};
    for (String marked : wrong) {
      Twins.faulty("I: own words", 1, marked);
    }
    String text = BASE + "put 1 1 size 0;closes not all and tick+records+payload+age+waiters=1 or 1=1;takes min(1,2)+max(1,2);noise 1;";
    for (int at = 0; at < text.length(); at++) {
      boolean begins = isPart(text.charAt(at)) && (at == 0 || !isPart(text.charAt(at - 1))) && text.charAt(at) > '9';
      for (char first : begins ? new char[] {'j', 'z', 'A'} : new char[0]) {
        if (first != text.charAt(at)) {
          Twins.faulty("I: a word's first letter", Twins::busy, 1, text.substring(0, at) + "^" + first + text.substring(at + 1));
        }
      }
    }
  }

  /** I: Blanks (10, 32) are where one likes (words and numbers side by side need one). */
  private static void blanks() {
    Twins.stands("I: blanks", 3, "\n \njournal \n 2 \n blocks \n 2 \n bytes \n 16 \n ; \n closes \n [ \n 1 \n + \n 1 \n > \n 1 \n ] \n and"
        + " \n all \n ; \n takes \n min \n ( \n 1 \n , \n 2 \n ) \n ; \n ");
    Twins.stands("I: no blanks", 4, "journal 2 blocks 2 bytes 16;closes[1+1>1]and[all]or(1)>0;takes(1)*min(1,2);put 1 1 size 0;");
    Twins.stands("I: a line's end alone", 2, "journal\n2\nblocks\n2\nbytes\n16;noise\n1;");
    for (char blank : new char[] {0, 9, 11, 13, 31, 33, 160}) {
      Twins.faulty("I: no blank " + (int) blank, 1, "journal^" + blank + "2 blocks 2 bytes 16;");
      Twins.faulty("I: no blank " + (int) blank, 1, BASE + "^" + blank);
    }
    Twins.faulty("I: word and number", 1, "journal^2 blocks 2 bytes 16;");
    Twins.faulty("I: number and word", 1, "journal 2^blocks 2 bytes 16;");
    Twins.faulty("I: word and number", 1, BASE + "put^1 1 size 0;");
    Twins.faulty("I: number and word", 1, BASE + "put 1 1^size 0;");
    Twins.faulty("I: number and word", 1, BASE + "closes 1>0^or all;");
    Twins.faulty("I: number and word", 1, BASE + "closes 1>0^and all;");
    Twins.faulty("I: word and number", 1, BASE + "closes not^1>0;");
    Twins.faulty("I: word and number", 1, BASE + "closes all and^1>0;");
    Twins.faulty("I: word and number", 1, BASE + "closes all or^1>0;");
    Twins.faulty("I: word and word", 1, BASE + "closes ^notall;");
    Twins.faulty("I: word and word", 1, BASE + "closes ^alland all;");
  }

  /** 1: the first byte with which no such text goes on. */
  private static void firstByteWithWhichNoTextGoesOn() {
    String[] marked = {"journal ^;", "journal 2 ^2 bytes 16;", "journal 2 blocks 2 bytes 16^,", BASE + "put 1^;", BASE + "put 1 2^;",
      BASE + "put 1 2 size^;", BASE + "put 1 2 size 3^,", BASE + "put ^x", BASE + "noise^;", BASE + "noise 1 ^1;", BASE + "noise 1^+1;",
      BASE + "closes^;", BASE + "closes 1^;", BASE + "closes 1+^;", BASE + "closes 1>^;", BASE + "closes 1>0^>0;", BASE + "closes 1^)>0;",
      BASE + "closes (1^>0);", BASE + "closes [1^]>0;", BASE + "closes [1>0^);", BASE + "closes [^];", BASE + "closes all^=1;",
      BASE + "closes not^;", BASE + "closes all and^;", BASE + "closes ^and all;", BASE + "closes 1^!0;", BASE + "takes^;",
      BASE + "takes (^);", BASE + "takes (1^;", BASE + "takes 1^>0;", BASE + "takes ^[1];", BASE + "takes ^+1;", BASE + "takes 1-^-1;",
      BASE + "takes min^;", BASE + "takes min(^,1);", BASE + "takes min(1^);", BASE + "takes min(1,^);", BASE + "takes min(1,2^,3);",
      BASE + "takes max^[1,2];", BASE + "takes 1^%1;", BASE + "takes ^not 1;", BASE + "takes ^all;", BASE + "takes 2^(1);", BASE + "^1",
      BASE + "closes 1 ^or all;", BASE + "closes 1 ^and all;", BASE + "closes not ^or all;", BASE + "closes all and ^or all;",
      BASE + "closes all or ^and all;", BASE + "takes (^+1);", BASE + "takes 1+^/1;"};
    for (String one : marked) {
      Twins.faulty("I 1", 1, one);
    }
  }

  /** 1: words and numbers whole, at their first byte. */
  private static void wordsAndNumbersWhole() {
    Twins.faulty("I 1: a word", 1, "^journ");
    Twins.faulty("I 1: a word", 1, "journal 2 ^bytes 2");
    Twins.faulty("I 1: a word", 1, BASE + "^putter");
    Twins.faulty("I 1: a word", 1, BASE + "noise ^one;");
    Twins.faulty("I 1: a number", 1, BASE + "^1234;");
    Twins.faulty("I 1: a number", 1, BASE + "^12345;");
    Twins.faulty("I 1: a number", 1, BASE + "put 1 2 ^3456;");
    Twins.faulty("I 1: a number", 1, BASE + "put 1 2 ^34567;");
    Twins.faulty("I 1: a number", 1, BASE + "closes 1>0 ^12345;");
    Twins.faulty("I 1: a number", 1, BASE + "closes all ^1;");
  }

  /** 1: where a number is asked, a 5th digit at itself. */
  private static void fifthDigit() {
    Twins.faulty("I 1: a 5th digit", 1, "journal 0000^2 blocks 2 bytes 16;");
    Twins.faulty("I 1: a 5th digit", 1, "journal 2 blocks 0000^2 bytes 16;");
    Twins.faulty("I 1: a 5th digit", 1, "journal 2 blocks 2 bytes 0001^6;");
    Twins.faulty("I 1: a 5th digit", 1, BASE + "put 0000^1 2 size 3;");
    Twins.faulty("I 1: a 5th digit", 1, BASE + "put 1 0000^2 size 3;");
    Twins.faulty("I 1: a 5th digit", 1, BASE + "put 1 2 size 0000^3;");
    Twins.faulty("I 1: a 5th digit", 1, BASE + "noise 0000^0;");
    Twins.faulty("I 1: a 5th digit", 1, BASE + "takes 1000^0;");
    Twins.faulty("I 1: a 5th digit", 1, BASE + "closes 1>1234^567890;");
    // as the document says most plainly: such a number is none that can't be
    Twins.faulty("I 1: a 5th digit of one too great", 1, "journal 9999^9");
  }

  /** 1: at the text's length, if it ends too soon. */
  private static void endsTooSoon() {
    String text = BASE + "put 1 2 size 3;closes [not (1)>min(1,2) or all] and all;takes (1)+2;noise 5;";
    int statements = 0;
    for (int length = 0; length < text.length(); length++) {
      boolean whole = !isPart(text.charAt(length)) || length == 0 || !isPart(text.charAt(length - 1));
      boolean ended = length > 0 && text.charAt(length - 1) == ';';
      statements += ended ? 1 : 0;
      if (ended) {
        Twins.stands("I 1: ends in time", statements, text.substring(0, length));
      } else if (whole) {
        Twins.faulty("I 1: ends too soon", 1, text.substring(0, length) + "^");
        Twins.faulty("I 1: ends too soon, with blanks", 1, text.substring(0, length) + " \n^");
      }
    }
  }

  /** Of a word or a number. */
  private static boolean isPart(char sign) {
    return sign >= 'a' && sign <= 'z' || sign >= '0' && sign <= '9';
  }

  /** 2: a number that can't be, at it. */
  private static void numberThatCantBe() {
    Twins.faulty("I 2: behind blanks", 2, "journal \n ^0001 blocks 2 bytes 16;");
    Twins.faulty("I 2: at the text's end", 2, "journal ^5");
    Twins.faulty("I 2: whatever follows", 2, BASE + "put ^0016size");
    Twins.faulty("I 2: whatever follows", 2, BASE + "noise ^0101(");
  }

  /** 4: the 7th of ( [ not that is open at once (not until its FACT ends), at it. */
  private static void sixOpen() {
    Twins.stands("I 4: six (", 2, BASE + "takes ((((((1))))));");
    Twins.faulty("I 4: seven (", 4, BASE + "takes ((((((^(1");
    Twins.stands("I 4: six [", 2, BASE + "closes [[[[[[all]]]]]];");
    Twins.faulty("I 4: seven [", 4, BASE + "closes [[[[[[^[all");
    Twins.stands("I 4: six not", 2, BASE + "closes not not not not not not all;");
    Twins.faulty("I 4: seven not", 4, BASE + "closes not not not not not not ^not all");
    Twins.stands("I 4: six of min, max", 2, BASE + "takes min(max(min(max(min(max(1,2),3),4),5),6),7);");
    Twins.faulty("I 4: seven of min, max", 4, BASE + "takes min(max(min(max(min(max(max \n^(1");
    Twins.faulty("I 4: a second part", 4, BASE + "takes min(1,max(1,min(1,max(1,min(1,max(1,min^(");
    Twins.stands("I 4: six of all", 2, BASE + "closes not [not [(min(1,2))>0]];");
    Twins.faulty("I 4: seven of all", 4, BASE + "closes not [not [(min(1,^(2");
    Twins.faulty("I 4: seven of all", 4, BASE + "closes [[[[((1))>0 and not not ^not all");
    Twins.stands("I 4: closed ones count no more", 3, BASE + "takes ((((((1))))))+((((((2))))))*min(((((1)))),(((((2))))));"
        + "closes [[[[[[all]]]]]]or[[[[[[all]]]]]];");
    Twins.stands("I 4: closed ones count no more", 3, BASE + "takes min(1,2)+max(1,2)+min(1,2)*max(1,2)/min(1,2)-max(1,2)+min(1,2)+max(1,2);"
        + "closes not all and not all and not all and not all and not all and not all and not all and not all;");
    Twins.stands("I 4: not until its fact ends", 2, BASE
        + "closes not not not not not not all and not not not not not not 1>0 or [[[[[[1>0 and all]]]]]];");
    Twins.faulty("I 4: not till its fact ends", 4, BASE + "closes not not not not not not ^(1)>0;");
    Twins.faulty("I 4: not till its fact ends", 4, BASE + "closes not not not not not not 1>^(0);");
    Twins.faulty("I 4: not till its fact ends", 4, BASE + "closes not not not not not not ^[all];");
    Twins.stands("I 4: both sides", 2, BASE + "closes not not not not not (1)>(0)and((((((1))))))>((((((0))))));");
    Trial t = new Trial("I 4: in each text anew");
    for (int times = 0; times < 3; times++) {
      t.tape(BASE + "takes ((((((x");
      t.due("journal() with a fault", t.of.journal(), -1);
      t.tape(BASE + "takes ((((((1))))));closes [[[[[[all]]]]]];");
      t.due("journal()", t.of.journal(), 3);
      t.due("ask() with a fault", t.ask("total ((((((x"), GroupJournal.NOTHING);
      t.due("ask()", t.ask("total ((((((1))))))"), 2);
    }
    Twins.faulty("I 4: in each statement anew", 4, BASE + "takes ((((((1))))));closes ((((((^(");
  }

  /** 5: one too many of a kind, at its first byte. */
  private static void tooManyOfAKind() {
    Twins.faulty("I 5: closes", 5, BASE + "closes all; \n ^closes");
    Twins.faulty("I 5: takes", 5, BASE + "takes 1; \n ^takes 1;");
    Twins.stands("I 5: noise and put are as many as one likes", 7, BASE + "noise 1;put 1 1 size 0;noise 2;put 1 1 size 0;noise 3;noise 3;");
  }

  /** FAULTS, the first along the text. */
  private static void firstAlongTheText() {
    Twins.faulty("I: 2 ahead of 1", 2, "journal ^9 block");
    Twins.faulty("I: 1 ahead of 2", 1, "journal 2 ^block 9");
    Twins.faulty("I: 4 ahead of 1", 4, BASE + "takes ((((((^(x");
    Twins.faulty("I: 1 ahead of 4", 1, BASE + "takes ((((((^x");
    Twins.faulty("I: 5 ahead of 1", 5, BASE + "takes 1;^takes x");
    Twins.faulty("I: 1 ahead of 5", 1, BASE + "takes ^x;takes 1;");
    Twins.faulty("I: 2 ahead of 5", 2, BASE + "takes 1;put ^77 1 size 1;takes 1;");
    Twins.faulty("I: 5 ahead of 4", 5, BASE + "takes 1;^takes (((((((1");
    Twins.faulty("I: 5 ahead of all behind 40", 5, BASE + "takes 1;" + "noise 1;".repeat(38) + "^takes 1;");
  }
}
