/** Promises 4 and 5: a journal's text and its faults. */
public final class TextTest {
  private static final String BASE = "journal 2 blocks 2 bytes 16;";

  public static void main(String[] args) {
    shapes();
    ends();
    words();
    numbers();
    depth();
    tooMany();
    accepted();
    told();
    restarted();
    nothingLeft();
    faultCalls();
    Trial.close();
  }

  /** The text, without its ^, has a fault where that stands. */
  private static void faulty(int kind, String marked) {
    Trial t = new Trial("4 " + marked);
    int place = marked.indexOf('^');
    t.tape(marked.substring(0, place) + marked.substring(place + 1));
    t.due("journal()", t.of.journal(), -1);
    t.due("fault(0)", t.of.fault(0), kind);
    t.due("fault(1)", t.of.fault(1), place);
    t.due("status(1)", t.of.status(1), 1);
    t.due("has(0)", t.of.has(0), 0);
    t.due("end(1), the tape having gone", t.of.end(1), false);
  }

  private static void stands(int statements, String text) {
    Trial t = new Trial("4 " + text);
    t.tape(text);
    t.due("journal()", t.of.journal(), statements);
    t.due("fault(0)", t.of.fault(0), 0);
    t.due("fault(1)", t.of.fault(1), -1);
    t.due("status(1)", t.of.status(1), 0);
  }

  private static void shapes() {
    stands(1, BASE);
    stands(1, "journal 4 blocks 4 bytes 32;");
    stands(1, "\njournal\n0002\nblocks  3 bytes 17 ; ");
    faulty(2, "journal ^1 blocks 2 bytes 16;");
    faulty(2, "journal ^5 blocks 2 bytes 16;");
    faulty(2, "journal 2 blocks ^1 bytes 16;");
    faulty(2, "journal 2 blocks ^5 bytes 16;");
    faulty(2, "journal 2 blocks 2 bytes ^15;");
    faulty(2, "journal 2 blocks 2 bytes ^33;");
    faulty(1, "^put 1 2 size 3;");
    faulty(1, "^;");
    faulty(1, BASE + "^;");
    faulty(1, BASE + "^journal 2 blocks 2 bytes 16;");
    faulty(1, "journal 2 ^bytes 16;");
  }

  private static void ends() {
    faulty(1, "^");
    faulty(1, "  ^");
    faulty(1, "journal^");
    faulty(1, "journal 2^");
    faulty(1, "journal 2 blocks 2 bytes 16^");
    faulty(1, "journal 2 blocks 2 bytes 16 \n^");
    faulty(1, BASE + "put 1 2 size^");
    faulty(1, BASE + "closes 1>0 and^");
    faulty(1, BASE + "takes min(1^");
    faulty(1, BASE + "takes (1 ^");
    faulty(1, BASE + "closes [all ^");
    faulty(1, BASE + "noise ^");
  }

  private static void words() {
    faulty(1, "^jour");
    faulty(1, "^journals 2 blocks 2 bytes 16;");
    faulty(1, "journal^2 blocks 2 bytes 16;");
    faulty(1, "journal 2^blocks 2 bytes 16;");
    faulty(1, BASE + "^gut 1 2 size 3;");
    faulty(1, BASE + "^Put 1 2 size 3;");
    faulty(1, BASE + "put 1 5 ^siz 0;");
    faulty(1, BASE + "closes 1>0^and 1>0;");
    faulty(1, BASE + "closes ^recordss>1;");
    faulty(1, BASE + "closes records^1>1;");
    faulty(1, BASE + "closes all^>1;");
    faulty(1, BASE + "closes (1^>0);");
    faulty(1, BASE + "closes 1>0 ^all;");
    faulty(1, BASE + "closes 1>^all;");
    faulty(1, BASE + "closes 1^;");
    faulty(1, BASE + "closes 1>0 ^1;");
    faulty(1, BASE + "closes not^1>0;");
    faulty(1, BASE + "closes ^number>0;");
    faulty(1, BASE + "takes ^age;");
    faulty(1, BASE + "takes ^waiters;");
    faulty(1, BASE + "takes ^all;");
    faulty(1, BASE + "takes min ^1;");
    faulty(1, BASE + "takes min(1^;2);");
    faulty(1, BASE + "takes 1^\u00e9;");
    faulty(1, BASE + "takes 1+^*2;");
    faulty(1, BASE + "takes ^-1;");
  }

  private static void numbers() {
    faulty(2, BASE + "put ^16 1 size 0;");
    faulty(2, BASE + "put 1 ^1000 size 0;");
    faulty(2, BASE + "put 1 5 size ^41;");
    faulty(2, BASE + "noise ^101;");
    faulty(2, BASE + "put ^16size;");
    faulty(1, BASE + "noise 0000^1;");
    faulty(1, BASE + "put 1 5 size 1234^5;");
    faulty(1, BASE + "takes 1234^5;");
    faulty(1, BASE + "closes 1>0 ^12345;");
    stands(2, BASE + "put 0015 0999 size 0040;");
    stands(3, BASE + "noise 100; takes 9999;");
  }

  private static void depth() {
    faulty(4, BASE + "takes ((((((^(1");
    faulty(4, BASE + "closes [[[[[[^[");
    faulty(4, BASE + "closes not not not not not not ^not all;");
    faulty(4, BASE + "closes not not [[((max^(1");
    faulty(4, BASE + "takes ((((((max  ^(1");
    faulty(4, BASE + "takes max(1,max(1,max(1,max(1,max(1,max(1,max^(");
    stands(2, BASE + "takes ((((((1)))))) + ((((((1))))));");
    stands(2, BASE + "closes not not not not not not all and not not not not not not all;");
    stands(2, BASE + "closes [[[not [(1) > max(2, 3)]]]] or [[[[[[all]]]]]];");
  }

  private static void tooMany() {
    faulty(5, BASE + "closes all;^closes all;");
    faulty(5, BASE + "takes 1; takes 2;".replace(" takes 2", " ^takes 2"));
    faulty(5, BASE + "takes 1;put 1 2 size 3;^takes2");
    String forty = BASE + "noise 0;".repeat(39);
    stands(40, forty);
    stands(40, forty + " \n");
    faulty(5, forty + "^noise 0;");
    faulty(5, forty + " ^x");
    faulty(5, forty + "^;");
    faulty(5, forty + "^\u0000");
  }

  private static void accepted() {
    stands(4, BASE + "noise 1;noise 2;noise 3;");
    stands(3, BASE + "closes tick+records*payload-age/waiters<min(1,2)and not[all or 1=2];takes tick+records-payload;");
    stands(3, BASE + "takes(1);closes[all];");
    stands(2, BASE + "put 0 0 size 0;");
  }

  private static void told() {
    Trial t = Trial.told("4 puts",
        BASE + "put 1 2 size 17;put 3 400 size 16;" + "put 5 6 size 0;".repeat(17));
    t.due("has(0)", t.of.has(0), 2);
    t.due("has(1)", t.of.has(1), 32);
    t.due("has(3), what can't be not appended", t.of.has(3), 16);
    t.due("has(5)", t.of.has(5), 16);
    t.due("waiting(0, 1)", t.of.waiting(0, 1), 3);
    t.due("waiting(0, 2)", t.of.waiting(0, 2), 400);
    t.due("waiting(15, 0)", t.of.waiting(15, 0), 15);
    t.due("has(13)", t.of.has(13), 0);
    t.due("status(2)", t.of.status(2), 0);

    t = Trial.told("4 without closes, takes", "journal 3 blocks 2 bytes 16;put 1 2 size 16;");
    t.of.ticks(5);
    t.due("has(5), age being 4", t.of.has(5), 1);
    t.of.ticks(1);
    t.due("has(5), age being 5", t.of.has(5), 0);
    t.due("has(7), payload being 19", t.of.has(7), 2);
    for (int i = 0; i < 4; i++) {
      t.of.append(1, 1, 0);
    }
    t.of.ticks(2);
    t.due("has(6), records being 4", t.of.has(6), 42);
    t.due("has(7), payload being 12", t.of.has(7), 1);
  }

  private static void restarted() {
    Trial t = Trial.told("4 again", BASE + "closes all; takes 1; put 1 2 size 3;");
    t.of.waits(4, 0);
    t.of.ticks(2);
    t.of.snap();
    t.of.append(2, 2, 2);
    t.of.flip(1, 1);
    t.tape(new int[] {1, 0, 2});
    t.of.see();
    t.tape("journal 2 blocks;");
    t.due("journal() with a fault", t.of.journal(), -1);
    t.due("all stays: has(2)", t.of.has(2), 2);
    t.due("has(11)", t.of.has(11), 1);
    t.due("has(12)", t.of.has(12), 1);
    t.due("has(13)", t.of.has(13), 5);
    t.due("octetOf(1, 1)", t.of.octetOf(1, 1), 255);
    t.tape("journal 3 blocks 2 bytes 20;");
    t.due("journal()", t.of.journal(), 1);
    for (int what = 2; what <= 14; what++) {
      t.due("has(" + what + ")", t.of.has(what), 0);
    }
    t.due("has(0)", t.of.has(0), 3);
    t.due("has(1)", t.of.has(1), 40);
    t.due("value(1)", t.of.value(1), -1);
    t.due("waiter(4)", t.of.waiter(4), -1);
    t.due("undo()", t.of.undo(), false);
    t.due("status(1)", t.of.status(1), 1);
    t.octets(0, 0, 0, 1, 0, 0, 74, 0);
    t.octets(1, 0, 0, 0);
    t.due("recovers(0, 4), nothing in the snap", t.of.recovers(0, 4), 0);
  }

  /** Nothing of a text before, nor of one with a fault, is left in what is told. */
  private static void nothingLeft() {
    String full = BASE + "noise 100;closes all;takes 9;put 1 1 size 0;put 1 2 size 0;";
    Trial t = Trial.told("4 one text behind the other", full);
    t.tape(BASE + "closes tick>500;takes 3;noise 100;put 5 5 size 0;put 6");
    t.due("journal() with a fault", t.of.journal(), -1);
    t.due("chance(1), the noise staying", t.of.chance(1), 1);
    t.due("has(7), closes and takes staying", t.of.has(7), 9);
    for (int i = 0; i < 2; i++) {
      t.tape(full);
      t.due("journal()", t.of.journal(), 6);
      t.tape(BASE + "put 7 7 size 7;");
      t.due("journal()", t.of.journal(), 2);
      t.due("has(5)", t.of.has(5), 1);
      t.due("soon(1)", t.of.soon(1), -1);
      t.due("chance(5), without noise", t.of.chance(5), 0);
      t.due("has(6), without closes", t.of.has(6), 0);
      t.of.ticks(1);
      t.due("has(7), without takes", t.of.has(7), 1);
    }

    t = Trial.told("4 behind a halted one", BASE);
    t.of.flip(0, 0);
    t.of.crash(0);
    t.due("has(14)", t.of.has(14), 1);
    t.tape(BASE);
    t.of.journal();
    t.due("has(14)", t.of.has(14), 0);
    t.due("append", t.of.append(1, 1, 1), 0);
  }

  private static void faultCalls() {
    Trial t = Trial.told("5 fault", BASE);
    t.due("ask()", t.ask("total 1 1"), GroupJournal.NOTHING);
    t.due("fault(0)", t.of.fault(0), 1);
    t.due("fault(1)", t.of.fault(1), 8);
    t.due("fault(2)", t.of.fault(2), -1);
    t.due("fault(-1)", t.of.fault(-1), -1);
    t.due("ask()", t.ask("total 1"), 2);
    t.due("fault(0)", t.of.fault(0), 0);
    t.due("fault(1)", t.of.fault(1), -1);
    t.tape("x");
    t.of.journal();
    t.due("fault(1)", t.of.fault(1), 0);
    t.tape(BASE);
    t.of.journal();
    t.due("fault(0)", t.of.fault(0), 0);
  }
}
