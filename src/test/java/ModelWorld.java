import java.util.ArrayList;
import java.util.HashMap;
import java.util.List;
import java.util.Map;
import java.util.TreeMap;
import java.util.TreeSet;

/** "Terms" II told a second time: what an act changes, in lists and copies; how records lie and are recovered. */
final class ModelWorld {
  static final int NONE = -1;
  static final int KEYS = 16;

  record Head(int serial, int first) {
  }

  record Frame(int begin, int kind, int length) {
  }

  /** A record as it was read: its end is the byte behind it. */
  record Read(int key, int value, int end) {
  }

  record Octet(int segment, int at, int is) {
  }

  record Waiter(int who, int number) {
  }

  record Release(int tick, int who, int number) {
  }

  record Rec(int number, int key, int value, int size, int born) {
    List<Integer> payload() {
      List<Integer> payload = new ArrayList<>(List.of(key, value / 256, value % 256));
      for (int i = 0; i < size; i++) {
        payload.add((value + 7 * i) % 256);
      }
      return payload;
    }
  }

  /** The right frames behind a head, the records that they told, and the byte where no right one was. */
  static final class Along {
    final List<Frame> frames = new ArrayList<>();
    final List<Read> records = new ArrayList<>();
    int stop = NONE;
  }

  static final class Found {
    int next;
    boolean isDamaged;
    int segment = NONE;
    int at;
    int serial;
    Integer[] table;
    final List<TreeSet<Integer>> lying = new ArrayList<>();
    private Along last;
  }

  final ModelText.Plan plan;
  int[][] disk;
  boolean[][] scars;
  final List<Rec> waiting = new ArrayList<>();
  final List<Rec> flying = new ArrayList<>();
  final List<Octet> way = new ArrayList<>();
  int ticksLeft;
  Integer[] table = new Integer[KEYS];
  Integer[] snapTable = new Integer[KEYS];
  int snapNumber;
  int next;
  final List<Waiter> waiters = new ArrayList<>();
  final List<Release> kept = new ArrayList<>();
  int tick;
  int segment;
  int at;
  int serial;
  int greatest;
  List<TreeSet<Integer>> lying = new ArrayList<>();
  boolean isHalted;

  /** All bytes are 0. */
  ModelWorld(ModelText.Plan plan) {
    this.plan = plan;
    disk = new int[plan.segments][plan.size()];
    scars = new boolean[plan.segments][plan.size()];
    for (int s = 0; s < plan.segments; s++) {
      lying.add(new TreeSet<>());
    }
  }

  ModelWorld copy() {
    ModelWorld copy = new ModelWorld(plan);
    copy.disk = diskCopy();
    for (int s = 0; s < plan.segments; s++) {
      copy.scars[s] = scars[s].clone();
      copy.lying.get(s).addAll(lying.get(s));
    }
    copy.waiting.addAll(waiting);
    copy.flying.addAll(flying);
    copy.way.addAll(way);
    copy.ticksLeft = ticksLeft;
    copy.table = table.clone();
    copy.snapTable = snapTable.clone();
    copy.snapNumber = snapNumber;
    copy.next = next;
    copy.waiters.addAll(waiters);
    copy.kept.addAll(kept);
    copy.tick = tick;
    copy.segment = segment;
    copy.at = at;
    copy.serial = serial;
    copy.greatest = greatest;
    copy.isHalted = isHalted;
    return copy;
  }

  private int[][] diskCopy() {
    int[][] copy = new int[disk.length][];
    for (int s = 0; s < disk.length; s++) {
      copy[s] = disk[s].clone();
    }
    return copy;
  }

  /** The disk, the first of the bytes on their way having arrived. */
  int[][] arrived(int count) {
    int[][] arrived = diskCopy();
    for (Octet octet : way.subList(0, count)) {
      arrived[octet.segment][octet.at] = octet.is;
    }
    return arrived;
  }

  int notAcknowledged() {
    return next - waiting.size() - flying.size();
  }

  int scarCount() {
    int count = 0;
    for (boolean[] row : scars) {
      for (boolean scar : row) {
        count += scar ? 1 : 0;
      }
    }
    return count;
  }

  private void write(int s, int place, int is) {
    disk[s][place] = is;
    scars[s][place] = false;
  }

  void flip(int s, int place) {
    disk[s][place] = 255 - disk[s][place];
    scars[s][place] = !scars[s][place];
  }

  /** All bytes from one on become 0: how many were not. */
  private int clear(int s, int from) {
    int count = 0;
    for (int place = from; place < plan.size(); place++) {
      count += disk[s][place] != 0 ? 1 : 0;
      write(s, place, 0);
    }
    return count;
  }

  // ---- checks, heads, frames

  static int check(int start, List<Integer> octets) {
    int check = start;
    for (int octet : octets) {
      check = (3 * check + octet) % 251;
    }
    return check;
  }

  private static List<Integer> headOctets(int serial, int number) {
    int first = number % 65536;
    List<Integer> head = new ArrayList<>(List.of(serial % 65536 / 256, serial % 256, first / 256, first % 256));
    head.add(check(7, head));
    return head;
  }

  /** What the right head of a segment tells; null without one. */
  static Head head(int[][] d, int s) {
    int told = d[s][0] * 256 + d[s][1];
    boolean isRight = told != 0 && check(7, List.of(d[s][0], d[s][1], d[s][2], d[s][3])) == d[s][4];
    return isRight ? new Head(told, d[s][2] * 256 + d[s][3]) : null;
  }

  /** A frame that is right but for what its kind (1 to 4) and a record tell; null without one. */
  private Frame frameAt(int[][] d, int s, int from, int ofSerial) {
    int blockEnd = (from / plan.bytes + 1) * plan.bytes;
    if (from >= plan.size() || blockEnd - from < 5) {
      return null;
    }
    int kind = d[s][from + 1];
    int length = d[s][from + 2];
    if (length < 1 || from + 4 + length > blockEnd || kind < 1 || kind > 4 || d[s][from + 3] != ofSerial % 256) {
      return null;
    }
    List<Integer> behind = new ArrayList<>();
    for (int i = 1; i < 4 + length; i++) {
      behind.add(d[s][from + i]);
    }
    return check(7, behind) == d[s][from] ? new Frame(from, kind, length) : null;
  }

  Along along(int[][] d, int s) {
    Along along = new Along();
    Head head = head(d, s);
    List<Integer> payload = new ArrayList<>();
    int from = 5;
    while (head != null) {
      from = frameStart(from);
      if (from >= plan.size()) {
        break;
      }
      Frame frame = frameAt(d, s, from, head.serial);
      if (frame == null || payload.isEmpty() != (frame.kind == 1 || frame.kind == 2)) {
        along.stop = from;
        break;
      }
      for (int i = 0; i < frame.length; i++) {
        payload.add(d[s][from + 4 + i]);
      }
      if (frame.kind == 1 || frame.kind == 4) {
        if (payload.size() < 3 || payload.get(0) > 15 || payload.get(1) * 256 + payload.get(2) > 999) {
          along.stop = from;
          break;
        }
        int end = from + 4 + frame.length;
        along.records.add(new Read(payload.get(0), payload.get(1) * 256 + payload.get(2), end));
        payload.clear();
      }
      along.frames.add(frame);
      from += 4 + frame.length;
    }
    return along;
  }

  private int frameStart(int from) {
    int left = plan.bytes - from % plan.bytes;
    return left < 5 ? from + left : from;
  }

  // ---- where records are laid

  private boolean isFree(int s, TreeSet<Integer> visited) {
    boolean isReached = way.stream().anyMatch(octet -> octet.segment == s);
    return !isReached && !visited.contains(s) && lying.get(s).ceiling(snapNumber) == null;
  }

  boolean isFree(int s) {
    return isFree(s, new TreeSet<>(List.of(segment)));
  }

  /** The bytes of a record laid from a byte of a segment on; null without room. */
  private List<Octet> framed(int s, int from, int ofSerial, List<Integer> payload) {
    List<Octet> octets = new ArrayList<>();
    int place = from;
    int done = 0;
    while (done < payload.size()) {
      while (place < frameStart(place)) {
        octets.add(new Octet(s, place, 0));
        place++;
      }
      if (place >= plan.size()) {
        return null;
      }
      int length = Math.min(plan.bytes - place % plan.bytes - 4, payload.size() - done);
      boolean isLast = done + length == payload.size();
      int kind = done == 0 ? (isLast ? 1 : 2) : (isLast ? 4 : 3);
      List<Integer> behind = new ArrayList<>(List.of(kind, length, ofSerial % 256));
      behind.addAll(payload.subList(done, done + length));
      octets.add(new Octet(s, place++, check(7, behind)));
      for (int octet : behind) {
        octets.add(new Octet(s, place++, octet));
      }
      done += length;
    }
    return octets;
  }

  boolean fitsBehindHead(int size) {
    return framed(0, 5, 1, new Rec(0, 0, 0, size, 0).payload()) != null;
  }

  /** Goes on from THE PLACE, record by record; nothing of the world is changed till all of them are there. */
  private final class Laying {
    int inSegment = segment;
    int place = at;
    int ofSerial = serial;
    int greatestSerial = greatest;
    final TreeSet<Integer> visited = new TreeSet<>(List.of(segment));
    final List<Octet> octets = new ArrayList<>();
    final Map<Integer, Integer> where = new TreeMap<>();

    boolean lays(Rec rec) {
      List<Octet> frames = framed(inSegment, place, ofSerial, rec.payload());
      if (frames == null && opens(rec)) {
        frames = framed(inSegment, place, ofSerial, rec.payload());
      }
      if (frames == null) {
        return false;
      }
      octets.addAll(frames);
      place = frames.get(frames.size() - 1).at + 1;
      where.put(rec.number, inSegment);
      return true;
    }

    private boolean opens(Rec rec) {
      int to = 0;
      while (to < plan.segments && !isFree(to, visited)) {
        to++;
      }
      if (to == plan.segments || !fitsBehindHead(rec.size)) {
        return false;
      }
      inSegment = to;
      place = 5;
      greatestSerial++;
      ofSerial = greatestSerial;
      visited.add(to);
      int i = 0;
      for (int octet : headOctets(ofSerial, rec.number)) {
        octets.add(new Octet(to, i++, octet));
      }
      return true;
    }
  }

  int room(int size) {
    Laying laying = new Laying();
    int count = 0;
    while (laying.lays(new Rec(count, 0, 0, size, 0))) {
      count++;
    }
    return count;
  }

  void openFirst(int number) {
    greatest++;
    segment = 0;
    at = 5;
    serial = greatest;
    int i = 0;
    for (int octet : headOctets(serial, number)) {
      write(0, i++, octet);
    }
  }

  // ---- ticks

  private Map<String, Long> facts(List<Rec> group) {
    Map<String, Long> facts = new HashMap<>();
    facts.put("tick", (long) tick);
    facts.put("records", (long) group.size());
    facts.put("payload", group.stream().mapToLong(rec -> rec.payload().size()).sum());
    facts.put("age", (long) tick - group.get(0).born);
    facts.put("waiters", (long) waiters.size());
    return facts;
  }

  /** A TICK, by a RULE if that is not 0: how many are RELEASED. */
  int pass(int rule) {
    int before = kept.size();
    if (!way.isEmpty()) {
      ticksLeft--;
      if (ticksLeft == 0) {
        acknowledge();
      }
    }
    if (way.isEmpty() && !waiting.isEmpty() && !isHalted && (rule > 0 || plan.closes.of(facts(waiting)) != 0)) {
      close(new ArrayList<>(rule > 0 && rule < waiting.size() ? waiting.subList(0, rule) : waiting));
    }
    tick++;
    return kept.size() - before;
  }

  private void acknowledge() {
    for (Octet octet : way) {
      write(octet.segment, octet.at, octet.is);
    }
    way.clear();
    for (Rec rec : flying) {
      table[rec.key] = rec.value;
      for (Waiter waiter : waiters) {
        if (waiter.number == rec.number) {
          kept.add(new Release(tick, waiter.who, rec.number));
        }
      }
      waiters.removeIf(waiter -> waiter.number == rec.number);
    }
    flying.clear();
  }

  private void close(List<Rec> group) {
    Laying laying = new Laying();
    for (Rec rec : group) {
      if (!laying.lays(rec)) {
        return;
      }
    }
    ticksLeft = (int) Math.max(1, Math.min(99, plan.takes.of(facts(group))));
    way.addAll(laying.octets);
    waiting.removeAll(group);
    flying.addAll(group);
    laying.where.forEach((number, s) -> lying.get(s).add(number));
    segment = laying.inSegment;
    at = laying.place;
    serial = laying.ofSerial;
    greatest = laying.greatestSerial;
  }

  // ---- crashes

  /** What would be RECOVERED from a disk. */
  Found recovered(int[][] d) {
    Found found = new Found();
    forget(found);
    int from = NONE;
    for (int s = 0; s < d.length; s++) {
      Head head = head(d, s);
      if (head != null && head.first <= snapNumber && (from == NONE || head.serial > head(d, from).serial)) {
        from = s;
      }
    }
    found.next = from == NONE ? snapNumber : head(d, from).first;
    while (from != NONE) {
      readSegment(found, d, from);
      from = following(found, d);
    }
    if (found.segment == NONE || found.next < snapNumber) {
      forget(found);
      found.next = snapNumber;
      found.segment = 0;
      found.at = 5;
      found.serial = 0;
      found.isDamaged = true;
    } else {
      found.isDamaged = isDamaged(found, d);
    }
    return found;
  }

  private void forget(Found found) {
    found.table = snapTable.clone();
    found.lying.clear();
    for (int s = 0; s < plan.segments; s++) {
      found.lying.add(new TreeSet<>());
    }
  }

  private void readSegment(Found found, int[][] d, int s) {
    found.segment = s;
    found.at = 5;
    found.serial = head(d, s).serial;
    found.last = along(d, s);
    for (Read read : found.last.records) {
      if (found.next >= snapNumber) {
        found.table[read.key] = read.value;
      }
      found.lying.get(s).add(found.next);
      found.next++;
      found.at = read.end;
    }
  }

  private static int following(Found found, int[][] d) {
    int to = NONE;
    for (int s = 0; s < d.length; s++) {
      Head head = head(d, s);
      boolean follows = head != null && head.serial > found.serial && head.first == found.next;
      if (follows && (to == NONE || head.serial > head(d, to).serial)) {
        to = s;
      }
    }
    return to;
  }

  private boolean isDamaged(Found found, int[][] d) {
    for (int s = 0; s < d.length; s++) {
      if (head(d, s) != null && head(d, s).serial > found.serial) {
        return true;
      }
    }
    for (int from = found.last.stop + 1; found.last.stop != NONE && from < plan.size(); from++) {
      if (frameAt(d, found.segment, from, found.serial) != null) {
        return true;
      }
    }
    return false;
  }

  void crash(int count) {
    for (Octet octet : way.subList(0, count)) {
      write(octet.segment, octet.at, octet.is);
    }
    recover();
  }

  private void recover() {
    Found found = recovered(disk);
    table = found.table;
    lying = found.lying;
    waiting.clear();
    flying.clear();
    way.clear();
    ticksLeft = 0;
    waiters.clear();
    next = found.next;
    segment = found.segment;
    at = found.at;
    serial = found.serial;
    isHalted = found.isDamaged;
    if (!isHalted) {
      clear(segment, at);
    }
  }

  /** How many of the bytes that are given up were not 0. */
  int giveUp() {
    boolean hasGround = serial != 0;
    int count = hasGround ? clear(segment, at) : 0;
    for (int s = 0; s < plan.segments; s++) {
      boolean isGreater = s != segment && head(disk, s) != null && head(disk, s).serial > serial;
      count += !hasGround || isGreater ? clear(s, 0) : 0;
    }
    if (!hasGround) {
      openFirst(next);
    }
    isHalted = false;
    return count;
  }

  // ---- images

  List<Integer> image() {
    List<Integer> image = new ArrayList<>(List.of(snapNumber % 65536 / 256, snapNumber % 256));
    for (Integer value : snapTable) {
      int told = value == null ? 65535 : value;
      image.addAll(List.of(told / 256, told % 256));
    }
    for (int[] row : disk) {
      for (int octet : row) {
        image.add(octet);
      }
    }
    image.add(check(139, image));
    return image;
  }

  /** The world that an image tells; null if it is none. */
  static ModelWorld of(ModelText.Plan plan, List<Integer> image) {
    int length = 2 + 2 * KEYS + plan.segments * plan.size();
    if (image.size() != length + 1 || check(139, image.subList(0, length)) != image.get(length)) {
      return null;
    }
    ModelWorld world = new ModelWorld(plan);
    world.snapNumber = image.get(0) * 256 + image.get(1);
    for (int key = 0; key < KEYS; key++) {
      int value = image.get(2 + 2 * key) * 256 + image.get(3 + 2 * key);
      if (value > 999 && value != 65535) {
        return null;
      }
      world.snapTable[key] = value == 65535 ? null : value;
    }
    for (int i = 0; i < plan.segments * plan.size(); i++) {
      world.disk[i / plan.size()][i % plan.size()] = image.get(2 + 2 * KEYS + i);
    }
    for (int s = 0; s < plan.segments; s++) {
      Head head = head(world.disk, s);
      world.greatest = Math.max(world.greatest, head == null ? 0 : head.serial);
    }
    world.recover();
    return world;
  }
}
