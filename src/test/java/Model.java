import java.util.ArrayDeque;
import java.util.ArrayList;
import java.util.Collections;
import java.util.Deque;
import java.util.HashMap;
import java.util.List;
import java.util.Map;
import java.util.TreeMap;

/** The promises told a second time, by other means than the program; its public methods bear the program's names. */
public final class Model {
  private static final int NONE = -1;
  private static final long NOTHING = -1000000000000000L;

  private List<Integer> tape = new ArrayList<>();
  private final int[] refused = new int[7];
  /** Null without a journal. */
  private ModelWorld world;
  private final Deque<ModelWorld> past = new ArrayDeque<>();
  private List<int[]> seen = new ArrayList<>();
  private List<Integer> image = new ArrayList<>();
  private int fault = 0;
  private int faultAt = NONE;
  private long drawn = 1;

  // ---- what a test may look at to choose its calls

  /** Null without a journal. */
  ModelWorld world() {
    return world;
  }

  // ---- helpers

  private int no(int kind) {
    refused[kind]++;
    return NONE;
  }

  private boolean denied(int kind) {
    no(kind);
    return false;
  }

  private List<Integer> takeTape() {
    List<Integer> taken = tape;
    tape = new ArrayList<>();
    return taken;
  }

  private static int[] octets(List<Integer> list) {
    return list.stream().mapToInt(octet -> octet).toArray();
  }

  private void remember() {
    past.addLast(world.copy());
    if (past.size() > 20) {
      past.removeFirst();
    }
  }

  private void blame(ModelText.Fault of) {
    fault = of.kind;
    faultAt = of.place;
  }

  private void acquit() {
    fault = 0;
    faultAt = NONE;
  }

  private static int told(int[] answers, int what) {
    return what < 0 || what >= answers.length ? NONE : answers[what];
  }

  private boolean hasSegment(int s) {
    return world != null && s >= 0 && s < world.plan.segments;
  }

  // ---- the tape and the journal

  public int feed(int a, int b, int c, int d, int e) {
    if (tape.size() + 20 > 1600) {
      return no(0);
    }
    for (int number : new int[] {a, b, c, d, e}) {
      tape.addAll(List.of(number >>> 24, number >>> 16 & 255, number >>> 8 & 255, number & 255));
    }
    return tape.size();
  }

  public boolean end(int n) {
    if (n < 0 || n > tape.size()) {
      return denied(0);
    }
    tape = new ArrayList<>(tape.subList(0, n));
    return true;
  }

  public int journal() {
    acquit();
    ModelText.Plan plan;
    try {
      plan = ModelText.journal(octets(takeTape()));
    } catch (ModelText.Fault found) {
      blame(found);
      return no(1);
    }
    world = new ModelWorld(plan);
    world.openFirst(0);
    past.clear();
    seen.clear();
    for (ModelText.Put put : plan.puts) {
      if (canAppend(put.key(), put.value(), put.size())) {
        add(put.key(), put.value(), put.size());
      }
    }
    return plan.statements;
  }

  public int fault(int what) {
    return told(new int[] {fault, faultAt}, what);
  }

  // ---- what is there

  public int has(int what) {
    if (world == null) {
      return told(new int[15], what);
    }
    return told(new int[] {world.plan.segments, world.plan.size(), world.tick, world.next, world.notAcknowledged(),
        world.waiting.size(), world.way.size(), world.ticksLeft, world.snapNumber, world.waiters.size(),
        world.scarCount(), Math.min(40, world.kept.size()), seen.size(), past.size(), world.isHalted ? 1 : 0}, what);
  }

  public int segment(int s, int what) {
    if (!hasSegment(s)) {
      return NONE;
    }
    ModelWorld.Head head = ModelWorld.head(world.disk, s);
    return told(new int[] {head == null ? NONE : head.serial(), head == null ? NONE : head.first(),
        world.isFree(s) ? 1 : 0, world.along(world.disk, s).frames.size()}, what);
  }

  public int frame(int s, int k, int what) {
    if (!hasSegment(s) || k < 0 || k >= world.along(world.disk, s).frames.size()) {
      return NONE;
    }
    ModelWorld.Frame frame = world.along(world.disk, s).frames.get(k);
    return told(new int[] {frame.begin(), frame.kind(), frame.length()}, what);
  }

  public int octetOf(int s, int at) {
    return hasSegment(s) ? told(world.disk[s], at) : NONE;
  }

  public int place(int what) {
    return world == null ? NONE : told(new int[] {world.segment, world.at, world.serial}, what);
  }

  public int value(int key) {
    return world == null || key < 0 || key > 15 || world.table[key] == null ? NONE : world.table[key];
  }

  public int soon(int key) {
    int value = value(key);
    List<ModelWorld.Rec> all = new ArrayList<>();
    if (world != null) {
      all.addAll(world.flying);
      all.addAll(world.waiting);
    }
    for (ModelWorld.Rec rec : all) {
      value = rec.key() == key ? rec.value() : value;
    }
    return value;
  }

  public int waiting(int k, int what) {
    if (world == null || k < 0 || k >= world.waiting.size()) {
      return NONE;
    }
    ModelWorld.Rec rec = world.waiting.get(k);
    return told(new int[] {rec.number(), rec.key(), rec.value(), rec.size()}, what);
  }

  public int waiter(int who) {
    if (world != null) {
      for (ModelWorld.Waiter waiter : world.waiters) {
        if (waiter.who() == who) {
          return waiter.number();
        }
      }
    }
    return NONE;
  }

  public int kept(int k, int what) {
    int count = has(11);
    if (k < 0 || k >= count) {
      return NONE;
    }
    ModelWorld.Release release = world.kept.get(world.kept.size() - count + k);
    return told(new int[] {release.tick(), release.who(), release.number()}, what);
  }

  // ---- ahead

  public int later(int n, int what) {
    if (world == null || n < 0 || n > 100 || world.tick + n > 999) {
      return NONE;
    }
    ModelWorld ahead = world.copy();
    for (int i = 0; i < n; i++) {
      ahead.pass(0);
    }
    return told(new int[] {ahead.notAcknowledged(), ahead.waiting.size(), ahead.way.size()}, what);
  }

  public int when(int number) {
    if (world == null || number < 0 || number >= world.next) {
      return NONE;
    }
    ModelWorld ahead = world.copy();
    int passed = 0;
    while (ahead.notAcknowledged() <= number) {
      if (passed == 100 || ahead.tick == 999) {
        return NONE;
      }
      ahead.pass(0);
      passed++;
    }
    return passed;
  }

  public int rule(int r, int what) {
    if (world == null || world.isHalted || r < 1 || r > 8) {
      return NONE;
    }
    ModelWorld ahead = world.copy();
    int passed = 0;
    int waited = 0;
    while (ahead.notAcknowledged() < ahead.next) {
      if (passed == 100 || ahead.tick == 999) {
        return NONE;
      }
      waited += ahead.next - ahead.notAcknowledged();
      ahead.pass(r);
      passed++;
    }
    return told(new int[] {passed, waited}, what);
  }

  public int best(int what) {
    int best = NONE;
    for (int r = 1; r <= 8; r++) {
      if (rule(r, 1) != NONE && (best == NONE || rule(r, 1) < rule(best, 1))) {
        best = r;
      }
    }
    return told(new int[] {best, rule(best, 1)}, what);
  }

  // ---- room, crashes

  public int room(int size) {
    return world == null || world.isHalted || size < 0 || size > 40 ? NONE : world.room(size);
  }

  public int recovers(int k, int what) {
    if (world == null || k < 0 || k > world.way.size()) {
      return NONE;
    }
    ModelWorld.Found found = world.recovered(world.arrived(k));
    int keys = 0;
    for (Integer value : found.table) {
      keys += value != null ? 1 : 0;
    }
    return told(new int[] {found.next, found.isDamaged ? 1 : 0, found.segment, found.at, keys}, what);
  }

  public int flips(int what) {
    if (world == null) {
      return NONE;
    }
    int[] counts = new int[3];
    int without = world.recovered(world.disk).next;
    for (int s = 0; s < world.plan.segments; s++) {
      for (int at = 0; at < world.plan.size(); at++) {
        int[][] flipped = world.arrived(0);
        flipped[s][at] = 255 - flipped[s][at];
        ModelWorld.Found found = world.recovered(flipped);
        counts[found.isDamaged ? 0 : found.next < without ? 1 : 2]++;
      }
    }
    return told(counts, what);
  }

  // ---- what arrived

  public int see() {
    List<Integer> taken = takeTape();
    if (world == null || taken.isEmpty() || taken.size() % 3 != 0 || taken.size() > 48) {
      return no(1);
    }
    List<int[]> rows = new ArrayList<>();
    for (int i = 0; i < taken.size(); i += 3) {
      int value = taken.get(i + 1) * 256 + taken.get(i + 2);
      if (taken.get(i) > 15 || value > 1000) {
        return no(1);
      }
      rows.add(new int[] {taken.get(i), value});
    }
    seen = rows;
    return rows.size();
  }

  private static int valueOr1000(Integer[] table, int key) {
    return table[key] == null ? 1000 : table[key];
  }

  /** The tables of all that may have arrived by what is seen, by how many bytes had. */
  private Map<Integer, Integer[]> tablesArrived() {
    Map<Integer, Integer[]> arrived = new TreeMap<>();
    for (int k = 0; k <= world.way.size(); k++) {
      Integer[] table = world.recovered(world.arrived(k)).table;
      if (seen.stream().allMatch(row -> valueOr1000(table, row[0]) == row[1])) {
        arrived.put(k, table);
      }
    }
    return arrived;
  }

  public int arrived(int k) {
    if (world == null) {
      return NONE;
    }
    List<Integer> all = new ArrayList<>(tablesArrived().keySet());
    return k == NONE ? all.size() : told(octets(all), k);
  }

  public int tells(int what) {
    if (world == null || tablesArrived().isEmpty()) {
      return NONE;
    }
    Map<Integer, Integer[]> arrived = tablesArrived();
    int telling = NONE;
    int fewest = NONE;
    for (int key = 0; key < 16; key++) {
      Map<Integer, Integer> counts = new HashMap<>();
      int most = 0;
      for (Integer[] table : arrived.values()) {
        most = Math.max(most, counts.merge(valueOr1000(table, key), 1, Integer::sum));
      }
      if (telling == NONE || most < fewest) {
        telling = key;
        fewest = most;
      }
    }
    return told(new int[] {telling, fewest}, what);
  }

  // ---- acts

  private boolean canAppend(int key, int value, int size) {
    return world != null && !world.isHalted && world.waiting.size() < 16 && key >= 0 && key <= 15 && value >= 0
        && value <= 999 && size >= 0 && size <= 40 && world.fitsBehindHead(size);
  }

  private int add(int key, int value, int size) {
    world.waiting.add(new ModelWorld.Rec(world.next, key, value, size, world.tick));
    return world.next++;
  }

  public int append(int key, int value, int size) {
    if (!canAppend(key, value, size)) {
      return no(2);
    }
    remember();
    return add(key, value, size);
  }

  public boolean waits(int who, int number) {
    boolean isPending = world != null && number >= world.notAcknowledged() && number < world.next;
    if (!isPending || who < 0 || who > 7 || waiter(who) != NONE) {
      return denied(2);
    }
    remember();
    world.waiters.add(new ModelWorld.Waiter(who, number));
    return true;
  }

  private boolean canPass(int n) {
    return world != null && n >= 1 && n <= 100 && world.tick + n <= 999;
  }

  public int ticks(int n) {
    if (!canPass(n)) {
      return no(3);
    }
    remember();
    int released = 0;
    for (int i = 0; i < n; i++) {
      released += world.pass(0);
    }
    return released;
  }

  private int draw(int of) {
    drawn = (1103515245L * drawn + 12345L) % (1L << 31);
    return (int) (drawn / 64 % of);
  }

  public int chance(int n) {
    if (!canPass(n)) {
      return no(3);
    }
    remember();
    int flipped = 0;
    for (int i = 0; i < n; i++) {
      if (draw(100) < world.plan.noise) {
        int s = draw(world.plan.segments);
        world.flip(s, draw(world.plan.size()));
        flipped++;
      }
      world.pass(0);
    }
    return flipped;
  }

  public int snap() {
    if (world == null || world.isHalted || world.snapNumber == world.notAcknowledged()) {
      return no(4);
    }
    remember();
    world.snapNumber = world.notAcknowledged();
    world.snapTable = world.table.clone();
    return world.snapNumber;
  }

  public int crash(int k) {
    if (world == null || k < 0 || k > world.way.size()) {
      return no(4);
    }
    remember();
    world.crash(k);
    return world.next;
  }

  public int giveUp() {
    if (world == null || !world.isHalted) {
      return no(4);
    }
    remember();
    return world.giveUp();
  }

  public int flip(int s, int at) {
    if (octetOf(s, at) == NONE) {
      return no(4);
    }
    remember();
    world.flip(s, at);
    return world.disk[s][at];
  }

  public boolean undo() {
    if (past.isEmpty()) {
      return denied(5);
    }
    world = past.removeLast();
    return true;
  }

  public boolean seed(int seed) {
    if (seed < 0) {
      return denied(6);
    }
    drawn = seed;
    return true;
  }

  // ---- questions

  public long ask() {
    int[] text = octets(takeTape());
    if (world == null) {
      return NOTHING;
    }
    acquit();
    ModelText.Question question;
    try {
      question = ModelText.question(text);
    } catch (ModelText.Fault found) {
      blame(found);
      return NOTHING;
    }
    List<Long> answers = new ArrayList<>();
    for (int s = 0; s < world.plan.segments; s++) {
      answers.add(question.node().of(facts(s)));
    }
    switch (question.asked()) {
      case "first": return answers.indexOf(1L);
      case "last": return answers.lastIndexOf(1L);
      case "most": return Collections.max(answers);
      case "least": return Collections.min(answers);
      default: return answers.stream().mapToLong(answer -> answer).sum();
    }
  }

  private Map<String, Long> facts(int s) {
    Map<String, Long> facts = new HashMap<>();
    ModelWorld.Head head = ModelWorld.head(world.disk, s);
    facts.put("number", (long) s);
    facts.put("serial", head == null ? 0L : head.serial());
    facts.put("first", head == null ? 0L : head.first());
    facts.put("frames", (long) world.along(world.disk, s).frames.size());
    facts.put("tick", (long) world.tick);
    for (int at = 0; at < world.plan.size(); at++) {
      facts.put("octet" + at, (long) world.disk[s][at]);
    }
    for (int key = 0; key < 16; key++) {
      facts.put("value" + key, (long) Math.max(0, value(key)));
    }
    return facts;
  }

  // ---- images, refusals

  public int image() {
    if (world == null) {
      return NONE;
    }
    image = world.image();
    return image.size();
  }

  public int octet(int k) {
    return told(octets(image), k);
  }

  public boolean on() {
    List<Integer> taken = takeTape();
    ModelWorld told = world == null ? null : ModelWorld.of(world.plan, taken);
    if (told == null) {
      return denied(6);
    }
    world = told;
    past.clear();
    return true;
  }

  public int status(int what) {
    return told(refused, what);
  }
}
