import java.util.LinkedHashMap;
import java.util.Map;

/** Two journals that are called alike, the first of them once more: what that one call answers, changes and leaves. */
final class Twins {
  static final String SMALL = "journal 2 blocks 2 bytes 16;";
  static final String GREAT = "journal 4 blocks 4 bytes 32;";
  /** Calls that are refused, as status() counts them. */
  static final int TAPE = 0;
  static final int TEXT = 1;
  static final int RECORD = 2;
  static final int TICK = 3;
  static final int DISK = 4;
  static final int UNDO = 5;
  static final int SETTING = 6;
  private static final int NOTHING_COUNTED = -1;
  private static final String QUESTION = "total 7+tick";

  private Twins() {
  }

  interface Setup {
    void on(GroupJournal of);
  }

  interface Call {
    long on(GroupJournal of);
  }

  // ---- what the twins are at first

  /** Lays a text as the whole tape. */
  static void lay(GroupJournal of, String text) {
    lay(of, Trial.octets(text));
  }

  static void lay(GroupJournal of, int... octets) {
    of.end(0);
    Trial.feed(of, octets);
  }

  static void tell(GroupJournal of, String text) {
    lay(of, text);
    of.journal();
  }

  /** A journal told by a text, a question on the tape. */
  static Setup told(String text) {
    return of -> {
      tell(of, text);
      lay(of, QUESTION);
    };
  }

  /** No journal, a question on the tape. */
  static void without(GroupJournal of) {
    lay(of, QUESTION);
  }

  /**
   * Tick 5; records 0 and 1 acknowledged and below the snap, 2 and 3 on their way (20 bytes, 3 ticks), 4 waits; waiters
   * 1 (for 3) and 2 (for 4), one release kept, a scar, a row seen, an image, a fault, ten acts, a question on the tape.
   */
  static void busy(GroupJournal of) {
    tell(of, SMALL + "noise 60;closes records>1;takes 3;put 1 10 size 0;put 2 20 size 0;");
    of.waits(6, 1);
    of.ticks(4);
    of.snap();
    of.append(3, 30, 0);
    of.append(4, 40, 1);
    of.waits(1, 3);
    of.ticks(1);
    of.append(5, 50, 2);
    of.waits(2, 4);
    of.flip(0, 13);
    lay(of, 1, 0, 10);
    of.see();
    of.image();
    lay(of, "total 1 1");
    of.ask();
    lay(of, QUESTION);
  }

  /** HALTED with a ground: record 0 was read, 1 is damaged, 2 stands behind it. */
  static void halted(GroupJournal of) {
    tell(of, SMALL + "noise 60;closes all;takes 1;put 1 10 size 0;put 2 20 size 0;put 3 30 size 0;");
    of.ticks(2);
    of.flip(0, 18);
    of.crash(0);
    lay(of, QUESTION);
  }

  /** HALTED without ground: the head of segment 0 is wrong; the snap has number 1. */
  static void groundless(GroupJournal of) {
    tell(of, SMALL + "noise 60;closes all;takes 1;put 1 10 size 0;");
    of.ticks(2);
    of.snap();
    of.flip(0, 0);
    of.crash(0);
    lay(of, QUESTION);
  }

  /** A journal at a tick (999 at most), nothing having been told but its text. */
  static Setup atTick(int tick, String text) {
    return of -> {
      tell(of, text);
      for (int left = tick; left > 0; left -= 100) {
        of.ticks(Math.min(left, 100));
      }
      lay(of, QUESTION);
    };
  }

  // ---- what one call more does

  /** A call that only looks: it answers so and changes nothing. */
  static void looks(String name, Setup setup, Call call, long answer) {
    new Pair(name, setup).call(call, answer).alike(NOTHING_COUNTED);
  }

  /** A call that is refused: it answers so, is counted once as of that kind, and changes nothing else. */
  static void refuses(String name, Setup setup, Call call, long answer, int kind) {
    new Pair(name, setup).call(call, answer).alike(kind);
  }

  /** The same of a call that takes the tape. */
  static void refusesTape(String name, Setup setup, Call call, long answer, int kind) {
    Pair pair = new Pair(name, setup).call(call, answer);
    pair.other.of.end(0);
    pair.alike(kind);
  }

  /** A journal's text, without its ^, has a fault where that stands: it is refused, all else stays. */
  static void faulty(String name, int fault, String marked) {
    faulty(name, Twins::busy, fault, marked);
    faulty(name, Twins::without, fault, marked);
  }

  static void faulty(String name, Setup setup, int fault, String marked) {
    faultyFrom(name, fault, marked, setup, GroupJournal::journal, -1, TEXT);
  }

  /** A question, without its ^, has a fault where that stands: NOTHING is told, nothing counted, all else stays. */
  static void faultyQuestion(String name, int fault, String marked) {
    faultyFrom(name, fault, marked, Twins::busy, GroupJournal::ask, GroupJournal.NOTHING, NOTHING_COUNTED);
  }

  private static void faultyFrom(String name, int fault, String marked, Setup setup, Call call, long answer, int kind) {
    int place = marked.indexOf('^');
    String text = marked.substring(0, place) + marked.substring(place + 1);
    Pair pair = new Pair(name + " [" + marked + "]", setup);
    lay(pair.called.of, text);
    pair.call(call, answer);
    pair.other.of.end(0);
    pair.fault = fault;
    pair.faultAt = place;
    pair.alike(kind);
  }

  /** A journal's text stands and has so many statements. */
  static Trial stands(String name, int statements, String text) {
    Trial t = new Trial(name + " [" + text + "]");
    lay(t.of, "journal");
    t.of.journal();
    lay(t.of, text);
    t.due("journal()", t.of.journal(), statements);
    t.due("fault(0)", t.of.fault(0), 0);
    t.due("fault(1)", t.of.fault(1), -1);
    t.due("status(1)", t.of.status(1), 1);
    return t;
  }

  private static final class Pair {
    final Trial called;
    final Trial other;
    int fault = -1;
    int faultAt = -1;

    Pair(String name, Setup setup) {
      called = new Trial(name);
      other = new Trial(name);
      setup.on(called.of);
      setup.on(other.of);
    }

    Pair call(Call call, long answer) {
      called.due("the call", call.on(called.of), answer);
      return this;
    }

    void alike(int kind) {
      Map<String, Long> wanted = look(other.of);
      if (kind != NOTHING_COUNTED) {
        wanted.merge("status(" + kind + ")", 1L, Long::sum);
      }
      if (fault >= 0) {
        wanted.put("fault(0)", (long) fault);
        wanted.put("fault(1)", (long) faultAt);
      }
      Map<String, Long> found = look(called.of);
      for (String call : wanted.keySet()) {
        called.due("then " + call, found.get(call), wanted.get(call));
      }
    }
  }

  // ---- what can be seen of a journal of two segments, in so few calls that an object is called 512 times at most

  private static Map<String, Long> look(GroupJournal of) {
    Map<String, Long> seen = new LinkedHashMap<>();
    each(seen, "status", 7, of::status);
    each(seen, "fault", 2, of::fault);
    disk(seen, "", of);
    each(seen, "place", 3, of::place);
    each(seen, "soon", 16, of::soon);
    each(seen, "waiter", 8, of::waiter);
    pairs(seen, "segment", 2, 4, of::segment);
    pairs(seen, "waiting", 3, 4, of::waiting);
    pairs(seen, "kept", 3, 3, of::kept);
    for (int k : new int[] {0, 7, 20}) {
      each(seen, "recovers " + k, 5, what -> of.recovers(k, what));
    }
    pairs(seen, "later", 3, 3, of::later);
    pairs(seen, "rule", 3, 2, of::rule);
    for (int k = 0; k < 3; k++) {
      int frame = k;
      each(seen, "frame " + k, 3, what -> of.frame(0, frame, what));
    }
    each(seen, "when", 6, of::when);
    each(seen, "best", 2, of::best);
    each(seen, "room", 2, of::room);
    each(seen, "flips", 3, of::flips);
    each(seen, "arrived", 2, k -> of.arrived(k - 1));
    each(seen, "tells", 2, of::tells);
    each(seen, "octet", 12, k -> of.octet(9 * k));
    // the tape goes into a question, which tells what was on it
    seen.put("bytes on the tape", (long) of.feed(0x20202020, 0x20202020, 0x20202020, 0x20202020, 0x20202020));
    seen.put("the question on the tape", of.ask());
    // the ticks by the seed tell it, and what is undone tells the acts
    seen.put("chance(3)", (long) of.chance(3));
    disk(seen, " behind chance(3)", of);
    of.undo();
    seen.put("undo()", of.undo() ? 1L : 0L);
    each(seen, "has behind undo()", 15, of::has);
    each(seen, "value behind undo()", 6, of::value);
    // the last byte of an image tells whether any of its bytes is another one
    seen.put("image()", (long) of.image());
    each(seen, "octet behind image()", 18, of::octet);
    seen.put("octet(98) behind image()", (long) of.octet(98));
    return seen;
  }

  private static void disk(Map<String, Long> seen, String when, GroupJournal of) {
    each(seen, "has" + when, 15, of::has);
    each(seen, "octets 0" + when, 32, at -> of.octetOf(0, at));
    each(seen, "octets 1" + when, 32, at -> of.octetOf(1, at));
    each(seen, "value" + when, 6, of::value);
  }

  private interface Asked {
    int of(int what);
  }

  private interface AskedTwice {
    int of(int k, int what);
  }

  private static void each(Map<String, Long> seen, String name, int count, Asked asked) {
    for (int what = 0; what < count; what++) {
      seen.put(name + "(" + what + ")", (long) asked.of(what));
    }
  }

  private static void pairs(Map<String, Long> seen, String name, int rows, int count, AskedTwice asked) {
    for (int k = 0; k < rows; k++) {
      int row = k;
      each(seen, name + " " + k, count, what -> asked.of(row, what));
    }
  }
}
