/** Promise 36: questions of all segments and their faults. */
public final class QuestionTest {
  public static void main(String[] args) {
    answers();
    sums();
    faults();
    withoutJournal();
    Trial.close();
  }

  /** Segments 0 and 1 are full, 2 is not opened; tick 4, key 0 has 201. */
  private static Trial filled(String name) {
    Trial t = Trial.told(name, "journal 3 blocks 2 bytes 16;closes all;takes 1;");
    t.of.append(0, 200, 16);
    t.of.ticks(2);
    t.of.append(0, 201, 16);
    t.of.ticks(2);
    return t;
  }

  private static void answers() {
    Trial t = filled("36 ask");
    due(t, "first all", 0);
    due(t, "last all", 2);
    due(t, "often all", 3);
    due(t, "first serial>1", 1);
    due(t, "last frames=2", 1);
    due(t, "often frames=2", 2);
    due(t, "first serial>9", -1);
    due(t, "last serial>9", -1);
    due(t, "often serial>9", 0);
    due(t, "first first=1", 1);
    due(t, "last first=0", 2);
    due(t, "total number", 3);
    due(t, "total serial", 3);
    due(t, "total frames", 4);
    due(t, "total tick", 12);
    due(t, "most serial*10+number", 21);
    due(t, "least serial*10+number", 2);
    due(t, "total value 0", 603);
    due(t, "total value 1", 0);
    due(t, "total value 16 + value (0-1)", 0);
    due(t, "total octet 1", 3);
    due(t, "total octet number", 0 + 2);
    due(t, "most octet(3+1)", Math.max(t.of.octetOf(0, 4), t.of.octetOf(1, 4)));
    due(t, "most octet 31", Math.max(t.of.octetOf(0, 31), t.of.octetOf(1, 31)));
    due(t, "most octet 32", 0);
    due(t, "most octet 127", 0);
    due(t, "most octet 128", 0);
    due(t, "most octet (0-1)", 0);
    due(t, "total octet 1 + 1", 6);
    due(t, "total value octet 2", 603);
    due(t, " \nfirst\nnot number<1 ", 1);
    t.of.flip(1, 0);
    due(t, "total serial", 1);
    due(t, "total first", 0);
    due(t, "total frames", 2);
    due(t, "total octet 0", 255);
  }

  private static void due(Trial t, String question, long answer) {
    t.due(question, t.ask(question), answer);
    t.due("fault(0)", t.of.fault(0), 0);
    t.due("fault(1)", t.of.fault(1), -1);
    t.due("end(1), the tape having gone", t.of.end(1), false);
  }

  private static void sums() {
    Trial t = Trial.told("36 sums", "journal 4 blocks 4 bytes 32;");
    due(t, "total 9999*9999", 4000000);
    due(t, "total 0-9999*9999", -4000000);
    due(t, "most 9999*9999", 1000000);
    due(t, "least 0-9999*9999-1", -1000000);
    due(t, "most (0-7)/2", -4);
    due(t, "least 7/(0-2)", -4);
    due(t, "most 1/0", 0);
    due(t, "least min(number,2)", 0);
    due(t, "most max(number,2)", 3);
    due(t, "total octet 127", 0);
    t.of.flip(3, 127);
    due(t, "total octet 127", 255);
    t.tape("journal 4 blocks 2 bytes 16;put 1 11 size 0;put 15 150 size 0;closes all;takes 1;");
    t.of.journal();
    due(t, "total octet 127", 0);
    due(t, "total octet 31", 0);
    t.of.ticks(2);
    due(t, "total value 1 + value 15", 4 * 161);
    t.of.flip(0, 0);
    due(t, "total value 16", 0);
    due(t, "total value (0-1)", 0);
    for (int i = 0; i < 100; i++) {
      t.due("ask() again", t.ask("most number + 1 * 2"), 5);
    }
    due(t, "often number*number=number", 2);
    due(t, "often 1=1 and number>0 or number=0", 4);
  }

  private static void faults() {
    faulty(1, "^");
    faulty(1, "  ^");
    faulty(1, "^firsts all");
    faulty(1, "^count all");
    faulty(1, "^1");
    faulty(1, "first^");
    faulty(1, "first 1^");
    faulty(1, "total 1^>2");
    faulty(1, "total ^all");
    faulty(1, "total ^records");
    faulty(1, "total ^payload");
    faulty(1, "total ^age");
    faulty(1, "total ^waiters");
    faulty(1, "total octet^3");
    faulty(1, "total octet ^+");
    faulty(1, "total^1");
    faulty(1, "total 1^;");
    faulty(1, "total 1 ^first");
    faulty(1, "total 1^first");
    faulty(1, "total 1234^5");
    faulty(1, "often all ^all");
    faulty(4, "total octet octet octet octet octet octet ^octet 1");
    faulty(4, "total value value value (((^(1");
    faulty(4, "first not [value octet max(value ^octet 1");
    Trial t = Trial.told("36 six open", "journal 2 blocks 2 bytes 16;");
    due(t, "total octet octet octet octet octet octet 1+octet octet octet octet octet octet 1", 2);
    due(t, "often not [value octet max(octet 1,octet 1)=0 or all]", 0);
  }

  private static void faulty(int kind, String marked) {
    Trial t = Trial.told("36 " + marked, "journal 2 blocks 2 bytes 16;");
    int place = marked.indexOf('^');
    t.due("ask()", t.ask(marked.substring(0, place) + marked.substring(place + 1)), GroupJournal.NOTHING);
    t.due("fault(0)", t.of.fault(0), kind);
    t.due("fault(1)", t.of.fault(1), place);
    t.due("end(1), the tape having gone", t.of.end(1), false);
    t.due("status(1)", t.of.status(1), 0);
  }

  private static void withoutJournal() {
    Trial t = new Trial("36 without a journal");
    t.due("ask()", t.ask("total 1"), GroupJournal.NOTHING);
    t.due("fault(1)", t.of.fault(1), -1);
    t.tape("jour");
    t.of.journal();
    t.due("ask()", t.ask("total 1"), GroupJournal.NOTHING);
    t.due("fault(0), as it was", t.of.fault(0), 1);
    t.due("fault(1)", t.of.fault(1), 0);
    t.due("end(1), the tape having gone", t.of.end(1), false);
  }
}
