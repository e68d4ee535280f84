import java.util.Arrays;

/** A group-commit journal on segments of blocks; ../shared/DOC.md numbers what it promises. */
public final class GroupJournal {
  public static final int NONE = -1;
  public static final long NOTHING = -1000000000000000L;

  private static final int TAPE = 1600;
  private static final int FED = 20;
  private static final int STATEMENTS = 40;
  private static final int SEGMENTS = 4;
  private static final int BLOCKS = 4;
  private static final int SEGMENT_BYTES = 128;
  private static final int DISK_BYTES = SEGMENTS * SEGMENT_BYTES;
  private static final int HEAD = 5;
  private static final int FRAME = 4;
  private static final int PAYLOAD_LEAST = 3;
  // The kinds of frames.
  private static final int ONLY = 1;
  private static final int BEGINS = 2;
  private static final int GOES_ON = 3;
  private static final int ENDS = 4;
  private static final int KEYS = 16;
  private static final int VALUES = 1000;
  private static final int SIZES = 41;
  private static final int WAITING = 16;
  private static final int PENDING = 2 * WAITING;
  private static final int WAITERS = 8;
  private static final int KEPT = 40;
  private static final int ACTS = 20;
  private static final int LAST_TICK = 999;
  private static final int TICKS_AT_ONCE = 100;
  private static final int TAKES_MOST = 99;
  private static final int RULES = 8;
  private static final int ROWS = 16;
  private static final int ROW = 3;
  private static final int CHECK_START = 7;
  private static final int IMAGE_START = 139;
  private static final int IMAGE_HEAD = 2 + 2 * KEYS;
  private static final int NO_VALUE = 65535;
  private static final int LIMIT = 1000000;

  // What a text may be wrong by.
  private static final int NO_SUCH_TEXT = 1;
  private static final int NO_SUCH_NUMBER = 2;
  private static final int TOO_DEEP = 4;
  private static final int TOO_MANY = 5;
  private static final int OPEN_MOST = 6;

  // What a formula is read for: it tells which words it may have.
  private static final int CLOSES = 0;
  private static final int TAKES = 1;
  private static final int QUESTION = 2;

  // A formula's code: a number below FACTS is itself, a fact is FACTS and its place, the rest follow.
  private static final int FACTS = 10000;
  private static final int ONE_SIDED = 20000;
  private static final int NOT = 20000;
  private static final int OCTET = 20001;
  private static final int VALUE = 20002;
  private static final int TWO_SIDED = 30000;
  private static final int OR = 30000;
  private static final int AND = 30001;
  private static final int LESS = 30002;
  private static final int MORE = 30003;
  private static final int LIKE = 30004;
  private static final int PLUS = 30005;
  private static final int MINUS = 30006;
  private static final int TIMES = 30007;
  private static final int OVER = 30008;
  private static final int LEAST = 30009;
  private static final int MOST = 30010;

  // The places of facts.
  private static final int TICK = 0;
  private static final int RECORDS = 1;
  private static final int PAYLOAD = 2;
  private static final int AGE = 3;
  private static final int WAITER_COUNT = 4;
  private static final int NUMBER = 5;
  private static final int SERIAL = 6;
  private static final int FIRST = 7;
  private static final int FRAMES = 8;
  private static final int TABLE = 16;
  private static final int OCTETS = 32;

  private static final int[] CLOSES_WITHOUT = {
    FACTS + RECORDS, 3, MORE, FACTS + AGE, 4, MORE, OR
  };
  private static final int[] TAKES_WITHOUT = {1, FACTS + PAYLOAD, 16, OVER, PLUS};

  // The questions.
  private static final int ASK_FIRST = 0;
  private static final int ASK_LAST = 1;
  private static final int ASK_OFTEN = 2;
  private static final int ASK_TOTAL = 3;
  private static final int ASK_MOST = 4;
  private static final int ASK_LEAST = 5;

  // What the refused calls are counted as.
  private static final int BAD_TAPE = 0;
  private static final int BAD_TEXT = 1;
  private static final int BAD_RECORD = 2;
  private static final int BAD_TICKS = 3;
  private static final int BAD_DISK = 4;
  private static final int BAD_UNDO = 5;
  private static final int BAD_SETTING = 6;
  private static final int REFUSALS = 7;

  private final int[] tape = new int[TAPE];
  private int tapeLength;
  private final int[] image = new int[IMAGE_HEAD + DISK_BYTES + 1];
  private int imageLength;
  private final int[] refused = new int[REFUSALS];
  private long drawn = 1;
  private final int[] seen = new int[ROWS * ROW];
  private int seenRows;
  private Plan plan = new Plan();
  private final Parser parser = new Parser();
  private final State now = new State(plan);
  private final State ahead = new State(plan);
  private final State[] past = new State[ACTS];
  private int pastCount;
  private int pastNext;
  private final Pen pen = new Pen();
  private final Recovery recovery = new Recovery();
  private final int[] arrivals = new int[DISK_BYTES + 1];
  private int arrivalCount;
  /** For each key by how many arrivals it has no value, then by how many each value. */
  private final int[] tally = new int[KEYS * (VALUES + 1)];

  public GroupJournal() {
    for (int i = 0; i < past.length; i++) {
      past[i] = new State(plan);
    }
  }

  // ---- the tape and the journal

  public int feed(int a, int b, int c, int d, int e) {
    if (tapeLength > TAPE - FED) {
      return refuse(BAD_TAPE);
    }
    feedNumber(a);
    feedNumber(b);
    feedNumber(c);
    feedNumber(d);
    feedNumber(e);
    return tapeLength;
  }

  public boolean end(int n) {
    if (n < 0 || n > tapeLength) {
      return deny(BAD_TAPE);
    }
    tapeLength = n;
    return true;
  }

  public int journal() {
    if (!parser.readJournal(tape, takeTape())) {
      return refuse(BAD_TEXT);
    }
    Plan told = parser.draft;
    parser.draft = plan;
    plan = told;
    begin();
    return plan.statements;
  }

  public int fault(int what) {
    return what == 0 ? parser.fault : what == 1 ? parser.faultAt : NONE;
  }

  // ---- what is there

  public int has(int what) {
    switch (what) {
      case 0: return now.disk.segments;
      case 1: return now.disk.size;
      case 2: return now.tick;
      case 3: return now.queue.behindLast();
      case 4: return now.queue.first;
      case 5: return now.queue.waitingCount();
      case 6: return now.flight.count;
      case 7: return now.flight.ticks;
      case 8: return now.snapNumber;
      case 9: return now.waiters.count;
      case 10: return now.disk.scarCount();
      case 11: return now.waiters.told();
      case 12: return seenRows;
      case 13: return pastCount;
      case 14: return now.halted ? 1 : 0;
      default: return NONE;
    }
  }

  public int segment(int segment, int what) {
    if (segment < 0 || segment >= now.disk.segments || what < 0 || what > 3) {
      return NONE;
    }
    if (what == 2) {
      return segment != now.placeSegment && now.isFree(segment) ? 1 : 0;
    }
    if (what == 3) {
      return recovery.reader.frameCount(now.disk, segment);
    }
    if (!now.disk.headStands(segment)) {
      return NONE;
    }
    return what == 0 ? now.disk.serialOf(segment) : now.disk.firstOf(segment);
  }

  public int frame(int segment, int k, int what) {
    FrameReader reader = recovery.reader;
    if (k < 0 || k >= reader.frameCount(now.disk, segment)) {
      return NONE;
    }
    reader.open(now.disk, segment);
    for (int i = 0; i <= k && i < SEGMENT_BYTES; i++) {
      reader.advance(now.disk);
    }
    switch (what) {
      case 0: return reader.begin;
      case 1: return reader.kind;
      case 2: return reader.length;
      default: return NONE;
    }
  }

  public int octetOf(int segment, int at) {
    return now.disk.octetAt(segment, at);
  }

  public int place(int what) {
    if (!isTold()) {
      return NONE;
    }
    switch (what) {
      case 0: return now.placeSegment;
      case 1: return now.placeAt;
      case 2: return now.placeSerial;
      default: return NONE;
    }
  }

  public int value(int key) {
    return cell(now.table, key);
  }

  public int soon(int key) {
    int pending = now.queue.latestOf(key);
    return pending != NONE ? pending : cell(now.table, key);
  }

  public int waiting(int k, int what) {
    Queue queue = now.queue;
    if (k < 0 || k >= queue.waitingCount()) {
      return NONE;
    }
    int at = queue.flying + k;
    switch (what) {
      case 0: return queue.first + at;
      case 1: return cell(queue.keys, at);
      case 2: return cell(queue.values, at);
      case 3: return cell(queue.sizes, at);
      default: return NONE;
    }
  }

  public int waiter(int who) {
    return now.waiters.awaitedBy(who);
  }

  public int kept(int k, int what) {
    return now.waiters.keptAt(k, what);
  }

  // ---- ahead

  public int later(int n, int what) {
    if (!isTold() || n < 0 || n > TICKS_AT_ONCE || now.tick + n > LAST_TICK) {
      return NONE;
    }
    ahead.copyFrom(now);
    for (int i = 0; i < n; i++) {
      ahead.passTick(pen, 0);
    }
    switch (what) {
      case 0: return ahead.queue.first;
      case 1: return ahead.queue.waitingCount();
      case 2: return ahead.flight.count;
      default: return NONE;
    }
  }

  public int when(int number) {
    if (number < 0 || number >= now.queue.behindLast()) {
      return NONE;
    }
    ahead.copyFrom(now);
    for (int passed = 0; passed <= TICKS_AT_ONCE; passed++) {
      if (number < ahead.queue.first) {
        return passed;
      }
      if (ahead.tick >= LAST_TICK) {
        return NONE;
      }
      ahead.passTick(pen, 0);
    }
    return NONE;
  }

  public int rule(int r, int what) {
    return what == 0 || what == 1 ? runByRule(r, what == 1) : NONE;
  }

  public int best(int what) {
    int least = NONE;
    int rule = NONE;
    for (int r = 1; r <= RULES; r++) {
      int waited = runByRule(r, true);
      if (waited != NONE && (least == NONE || waited < least)) {
        least = waited;
        rule = r;
      }
    }
    return what == 0 ? rule : what == 1 ? least : NONE;
  }

  // ---- room, crashes

  public int room(int size) {
    if (!isTold() || now.halted || size < 0 || size >= SIZES) {
      return NONE;
    }
    return pen.roomFor(now, PAYLOAD_LEAST + size);
  }

  public int recovers(int k, int what) {
    if (!isTold() || k < 0 || k > now.flight.count) {
      return NONE;
    }
    ahead.disk.copyFrom(now.disk);
    now.flight.arrive(ahead.disk, 0, k);
    recovery.read(ahead.disk, now.snapNumber, now.snapTable);
    switch (what) {
      case 0: return recovery.next;
      case 1: return recovery.damaged ? 1 : 0;
      case 2: return recovery.segment;
      case 3: return recovery.at;
      case 4: return recovery.valueCount();
      default: return NONE;
    }
  }

  public int flips(int what) {
    if (!isTold() || what < 0 || what > 2) {
      return NONE;
    }
    recovery.read(now.disk, now.snapNumber, now.snapTable);
    int next = recovery.next;
    Disk probe = ahead.disk;
    probe.copyFrom(now.disk);
    int count = 0;
    for (int address = 0; address < probe.total(); address++) {
      probe.turn(address);
      recovery.read(probe, now.snapNumber, now.snapTable);
      probe.turn(address);
      int outcome = recovery.damaged ? 0 : recovery.next < next ? 1 : 2;
      count += outcome == what ? 1 : 0;
    }
    return count;
  }

  // ---- what arrived

  public int see() {
    int length = takeTape();
    if (!isTold() || !rowsStand(length)) {
      return refuse(BAD_TEXT);
    }
    for (int i = 0; i < length && i < seen.length; i++) {
      seen[i] = cell(tape, i);
    }
    seenRows = length / ROW;
    return seenRows;
  }

  public int arrived(int k) {
    if (!isTold() || k < NONE) {
      return NONE;
    }
    gatherArrived();
    if (k == NONE) {
      return arrivalCount;
    }
    return k < arrivalCount ? cell(arrivals, k) : NONE;
  }

  public int tells(int what) {
    if (!isTold()) {
      return NONE;
    }
    gatherArrived();
    int telling = NONE;
    int fewest = NONE;
    for (int key = 0; key < KEYS && arrivalCount > 0; key++) {
      int left = mostLeft(key);
      if (telling == NONE || left < fewest) {
        telling = key;
        fewest = left;
      }
    }
    return what == 0 ? telling : what == 1 ? fewest : NONE;
  }

  // ---- acts

  public int append(int key, int value, int size) {
    if (!isTold() || !now.takesRecord(key, value, size)) {
      return refuse(BAD_RECORD);
    }
    remember();
    now.queue.add(key, value, size, now.tick);
    return now.queue.behindLast() - 1;
  }

  public boolean waits(int who, int number) {
    boolean pending = number >= now.queue.first && number < now.queue.behindLast();
    if (!pending || who < 0 || who >= WAITERS || now.waiters.awaitedBy(who) != NONE) {
      return deny(BAD_RECORD);
    }
    remember();
    now.waiters.add(who, number);
    return true;
  }

  public int ticks(int n) {
    if (!canPass(n)) {
      return refuse(BAD_TICKS);
    }
    remember();
    int released = 0;
    for (int i = 0; i < n; i++) {
      released += now.passTick(pen, 0);
    }
    return released;
  }

  public int chance(int n) {
    if (!canPass(n)) {
      return refuse(BAD_TICKS);
    }
    remember();
    int flipped = 0;
    for (int i = 0; i < n; i++) {
      if (draw(100) < plan.noise) {
        int segment = draw(now.disk.segments);
        now.disk.turn(segment * now.disk.size + draw(now.disk.size));
        flipped++;
      }
      now.passTick(pen, 0);
    }
    return flipped;
  }

  public int snap() {
    if (!isTold() || now.halted || now.snapNumber == now.queue.first) {
      return refuse(BAD_DISK);
    }
    remember();
    now.takeSnap();
    return now.snapNumber;
  }

  public int crash(int k) {
    if (!isTold() || k < 0 || k > now.flight.count) {
      return refuse(BAD_DISK);
    }
    remember();
    now.crashBy(k, recovery);
    return now.queue.behindLast();
  }

  public int giveUp() {
    if (!now.halted) {
      return refuse(BAD_DISK);
    }
    remember();
    return now.giveUpRest();
  }

  public int flip(int segment, int at) {
    if (!now.disk.holds(segment, at)) {
      return refuse(BAD_DISK);
    }
    remember();
    now.disk.turn(segment * now.disk.size + at);
    return now.disk.octetAt(segment, at);
  }

  public boolean undo() {
    if (pastCount <= 0) {
      return deny(BAD_UNDO);
    }
    pastCount--;
    pastNext = (pastNext + ACTS - 1) % ACTS;
    State before = pastAt(pastNext);
    if (before != null) {
      now.copyFrom(before);
    }
    return true;
  }

  public boolean seed(int seed) {
    if (seed < 0) {
      return deny(BAD_SETTING);
    }
    drawn = seed;
    return true;
  }

  // ---- questions

  public long ask() {
    int length = takeTape();
    if (!isTold()) {
      return NOTHING;
    }
    return parser.readQuestion(tape, length) ? answer(parser.asked, parser.question) : NOTHING;
  }

  // ---- images, refusals

  public int image() {
    if (!isTold()) {
      return NONE;
    }
    imageLength = 0;
    addPair(now.snapNumber);
    for (int key = 0; key < KEYS; key++) {
      int value = cell(now.snapTable, key);
      addPair(value == NONE ? NO_VALUE : value);
    }
    for (int address = 0; address < now.disk.total(); address++) {
      addOctet(cell(now.disk.bytes, address));
    }
    addOctet(checkOf(IMAGE_START, image, 0, imageLength));
    return imageLength;
  }

  public int octet(int k) {
    return k < imageLength ? cell(image, k) : NONE;
  }

  public boolean on() {
    int length = takeTape();
    if (!isTold() || !isImage(length)) {
      return deny(BAD_SETTING);
    }
    pastCount = 0;
    now.blank(plan);
    now.snapNumber = tapePair(0);
    for (int key = 0; key < KEYS; key++) {
      int value = tapePair(2 + 2 * key);
      put(now.snapTable, key, value == NO_VALUE ? NONE : value);
    }
    for (int address = 0; address < now.disk.total(); address++) {
      now.disk.write(address, cell(tape, IMAGE_HEAD + address));
    }
    now.greatest = now.disk.greatestSerial();
    now.recover(recovery);
    return true;
  }

  public int status(int what) {
    return cell(refused, what);
  }

  // ---- helpers of the public calls

  private boolean isTold() {
    return plan.segments > 0;
  }

  private int refuse(int kind) {
    put(refused, kind, cell(refused, kind) + 1);
    return NONE;
  }

  private boolean deny(int kind) {
    refuse(kind);
    return false;
  }

  /** The length of the tape, which is empty from now on; its bytes may still be read. */
  private int takeTape() {
    int length = tapeLength;
    tapeLength = 0;
    return length;
  }

  private void feedNumber(int number) {
    for (int shift = 24; shift >= 0; shift -= 8) {
      put(tape, tapeLength, number >> shift & 255);
      tapeLength++;
    }
  }

  private int tapePair(int at) {
    return cell(tape, at) << 8 | cell(tape, at + 1);
  }

  /** All is as the plan tells it at first. */
  private void begin() {
    seenRows = 0;
    pastCount = 0;
    now.blank(plan);
    now.openAtOnce(0);
    for (int i = 0; i < plan.puts; i++) {
      int key = cell(plan.putKeys, i);
      int value = cell(plan.putValues, i);
      int size = cell(plan.putSizes, i);
      if (now.takesRecord(key, value, size)) {
        now.queue.add(key, value, size, now.tick);
      }
    }
  }

  private State pastAt(int at) {
    return at >= 0 && at < past.length ? past[at] : null;
  }

  private void remember() {
    State slot = pastAt(pastNext);
    if (slot != null) {
      slot.copyFrom(now);
    }
    pastNext = (pastNext + 1) % ACTS;
    pastCount = Math.min(ACTS, pastCount + 1);
  }

  private boolean canPass(int n) {
    return isTold() && n >= 1 && n <= TICKS_AT_ONCE && now.tick + n <= LAST_TICK;
  }

  private int draw(int below) {
    drawn = (1103515245L * drawn + 12345L) & 0x7fffffffL;
    return below > 0 ? (int) (drawn / 64 % below) : 0;
  }

  /** Ticks ahead till all is acknowledged, or the sum of those of each record; NONE when not all are. */
  private int runByRule(int rule, boolean summed) {
    if (!isTold() || now.halted || rule < 1 || rule > RULES) {
      return NONE;
    }
    ahead.copyFrom(now);
    int sum = 0;
    for (int passed = 1; passed <= TICKS_AT_ONCE; passed++) {
      if (ahead.queue.count == 0) {
        return summed ? sum : passed - 1;
      }
      if (ahead.tick >= LAST_TICK) {
        return NONE;
      }
      int pending = ahead.queue.count;
      ahead.passTick(pen, rule);
      sum += passed * (pending - ahead.queue.count);
    }
    return ahead.queue.count > 0 ? NONE : summed ? sum : TICKS_AT_ONCE;
  }

  private boolean rowsStand(int length) {
    if (length < ROW || length > ROWS * ROW || length % ROW != 0) {
      return false;
    }
    for (int at = 0; at < length; at += ROW) {
      if (cell(tape, at) >= KEYS || tapePair(at + 1) > VALUES) {
        return false;
      }
    }
    return true;
  }

  /** The counts of bytes that may have arrived by what is seen. */
  private void gatherArrived() {
    Disk probe = ahead.disk;
    probe.copyFrom(now.disk);
    arrivalCount = 0;
    Arrays.fill(tally, 0);
    for (int k = 0; k <= now.flight.count; k++) {
      if (k > 0) {
        now.flight.arrive(probe, k - 1, k);
      }
      recovery.read(probe, now.snapNumber, now.snapTable);
      if (isSeen(recovery.table)) {
        addArrival(k, recovery.table);
      }
    }
  }

  private void addArrival(int k, int[] table) {
    put(arrivals, arrivalCount, k);
    arrivalCount++;
    for (int key = 0; key < KEYS; key++) {
      int at = key * (VALUES + 1) + 1 + cell(table, key);
      put(tally, at, cell(tally, at) + 1);
    }
  }

  /** How many arrivals are left at the most when the value of a key is known. */
  private int mostLeft(int key) {
    int most = 0;
    for (int i = 0; i <= VALUES; i++) {
      most = Math.max(most, cell(tally, key * (VALUES + 1) + i));
    }
    return most;
  }

  private boolean isSeen(int[] table) {
    for (int at = 0; at < seenRows * ROW; at += ROW) {
      int value = cell(seen, at + 1) << 8 | cell(seen, at + 2);
      if (cell(table, cell(seen, at)) != (value == VALUES ? NONE : value)) {
        return false;
      }
    }
    return true;
  }

  private long answer(int asked, Formula question) {
    long total = 0;
    int often = 0;
    int first = NONE;
    int last = NONE;
    int most = -LIMIT;
    int least = LIMIT;
    for (int segment = 0; segment < now.disk.segments; segment++) {
      tellSegment(question, segment);
      int value = question.evaluate();
      total += value;
      most = Math.max(most, value);
      least = Math.min(least, value);
      if (value != 0) {
        first = first == NONE ? segment : first;
        last = segment;
        often++;
      }
    }
    switch (asked) {
      case ASK_FIRST: return first;
      case ASK_LAST: return last;
      case ASK_OFTEN: return often;
      case ASK_TOTAL: return total;
      case ASK_MOST: return most;
      default: return least;
    }
  }

  private void tellSegment(Formula question, int segment) {
    boolean stands = now.disk.headStands(segment);
    question.clearFacts();
    question.tell(TICK, now.tick);
    question.tell(NUMBER, segment);
    question.tell(SERIAL, stands ? now.disk.serialOf(segment) : 0);
    question.tell(FIRST, stands ? now.disk.firstOf(segment) : 0);
    question.tell(FRAMES, recovery.reader.frameCount(now.disk, segment));
    for (int key = 0; key < KEYS; key++) {
      question.tell(TABLE + key, Math.max(0, cell(now.table, key)));
    }
    for (int at = 0; at < now.disk.size; at++) {
      question.tell(OCTETS + at, now.disk.octetAt(segment, at));
    }
  }

  private void addPair(int number) {
    addOctet(number >> 8 & 255);
    addOctet(number & 255);
  }

  private void addOctet(int octet) {
    put(image, imageLength, octet);
    imageLength++;
  }

  private boolean isImage(int length) {
    if (length != IMAGE_HEAD + now.disk.total() + 1) {
      return false;
    }
    for (int key = 0; key < KEYS; key++) {
      int value = tapePair(2 + 2 * key);
      if (value >= VALUES && value != NO_VALUE) {
        return false;
      }
    }
    return cell(tape, length - 1) == checkOf(IMAGE_START, tape, 0, length - 1);
  }

  // ---- helpers of all

  private static int cell(int[] cells, int at) {
    return at >= 0 && at < cells.length ? cells[at] : NONE;
  }

  private static void put(int[] cells, int at, int value) {
    if (at >= 0 && at < cells.length) {
      cells[at] = value;
    }
  }

  private static void copy(int[] from, int[] to) {
    System.arraycopy(from, 0, to, 0, Math.min(from.length, to.length));
  }

  private static int checkOf(int start, int[] cells, int from, int to) {
    int check = start;
    for (int at = from; at < to; at++) {
      int octet = at >= 0 && at < cells.length ? cells[at] : 0;
      check = (3 * check + octet) % 251;
    }
    return check;
  }

  private static int payloadOctet(int key, int value, int at) {
    switch (at) {
      case 0: return key;
      case 1: return value >> 8;
      case 2: return value & 255;
      default: return (value + 7 * (at - PAYLOAD_LEAST)) & 255;
    }
  }

  /** What a journal's text tells. */
  private static final class Plan {
    int segments;
    int blocks;
    int bytes;
    int noise;
    int statements;
    boolean hasCloses;
    boolean hasTakes;
    final Formula closes = new Formula();
    final Formula takes = new Formula();
    final int[] putKeys = new int[STATEMENTS];
    final int[] putValues = new int[STATEMENTS];
    final int[] putSizes = new int[STATEMENTS];
    int puts;

    void clear() {
      noise = 0;
      statements = 0;
      puts = 0;
      hasCloses = false;
      hasTakes = false;
      closes.become(CLOSES_WITHOUT);
      takes.become(TAKES_WITHOUT);
    }

    void addPut(int key, int value, int size) {
      put(putKeys, puts, key);
      put(putValues, puts, value);
      put(putSizes, puts, size);
      puts++;
    }
  }

  /** A TEST or a SUM, each sign behind what it is of; a test answers 1 or 0. */
  private static final class Formula {
    private final int[] code = new int[TAPE];
    private int length;
    private final int[] facts = new int[OCTETS + SEGMENT_BYTES];
    // Each of the 6 that may be open at once keeps three answers waiting at most, the rest five.
    private final int[] stack = new int[64];
    private int depth;

    void become(int[] other) {
      length = 0;
      for (int i = 0; i < other.length; i++) {
        emit(other[i]);
      }
    }

    void clear() {
      length = 0;
    }

    void emit(int sign) {
      put(code, length, sign);
      length++;
    }

    void clearFacts() {
      Arrays.fill(facts, 0);
    }

    void tell(int fact, int value) {
      put(facts, fact, value);
    }

    int evaluate() {
      depth = 0;
      for (int i = 0; i < length; i++) {
        int sign = cell(code, i);
        if (sign < FACTS) {
          push(sign);
        } else if (sign < ONE_SIDED) {
          push(cell(facts, sign - FACTS));
        } else if (sign < TWO_SIDED) {
          push(ofOne(sign, pop()));
        } else {
          int right = pop();
          push(ofTwo(sign, pop(), right));
        }
      }
      return pop();
    }

    private void push(int answer) {
      put(stack, depth, answer);
      depth++;
    }

    private int pop() {
      depth--;
      return cell(stack, depth);
    }

    private int ofOne(int sign, int of) {
      switch (sign) {
        case NOT: return of == 0 ? 1 : 0;
        case OCTET: return of >= 0 && of < SEGMENT_BYTES ? cell(facts, OCTETS + of) : 0;
        default: return of >= 0 && of < KEYS ? cell(facts, TABLE + of) : 0;
      }
    }

    private int ofTwo(int sign, int left, int right) {
      switch (sign) {
        case OR: return left | right;
        case AND: return left & right;
        case LESS: return left < right ? 1 : 0;
        case MORE: return left > right ? 1 : 0;
        case LIKE: return left == right ? 1 : 0;
        case PLUS: return held((long) left + right);
        case MINUS: return held((long) left - right);
        case TIMES: return held((long) left * right);
        case OVER: return right == 0 ? 0 : Math.floorDiv(left, right);
        case LEAST: return Math.min(left, right);
        default: return Math.max(left, right);
      }
    }

    private int held(long number) {
      return (int) Math.max(-LIMIT, Math.min(LIMIT, number));
    }
  }

  /** Reads a journal's text or a question along the tape, till its first fault. */
  private static final class Parser {
    Plan draft = new Plan();
    final Formula question = new Formula();
    int asked;
    int fault;
    int faultAt = NONE;
    private int[] text = new int[0];
    private int length;
    private int at;
    /** Where the latest word or number ended: another one may not begin just there. */
    private int glued;
    private Formula formula = question;
    private int mode;
    private int open;

    boolean readJournal(int[] tape, int tapeLength) {
      begin(tape, tapeLength);
      draft.clear();
      if (!shape()) {
        return false;
      }
      for (int count = 1; count <= STATEMENTS; count++) {
        if (!expect(';')) {
          return false;
        }
        draft.statements = count;
        if (peek() == NONE) {
          return true;
        }
        if (count == STATEMENTS) {
          return fail(TOO_MANY, at);
        }
        if (!statement()) {
          return false;
        }
      }
      return false;
    }

    boolean readQuestion(int[] tape, int tapeLength) {
      begin(tape, tapeLength);
      asked = command();
      if (asked == NONE) {
        return fail(NO_SUCH_TEXT, at);
      }
      aim(question, QUESTION);
      boolean stands = asked <= ASK_OFTEN ? test() : sum();
      return stands && (peek() == NONE || fail(NO_SUCH_TEXT, at));
    }

    private void begin(int[] tape, int tapeLength) {
      text = tape;
      length = Math.min(tapeLength, tape.length);
      at = 0;
      glued = NONE;
      fault = 0;
      faultAt = NONE;
    }

    private boolean fail(int kind, int place) {
      fault = kind;
      faultAt = place;
      return false;
    }

    /** The next byte that is no blank; NONE at the text's end. */
    private int peek() {
      while (at >= 0 && at < length && at < text.length && (text[at] == ' ' || text[at] == 10)) {
        at++;
      }
      return at >= 0 && at < length && at < text.length ? text[at] : NONE;
    }

    private int octetAt(int place) {
      return place >= 0 && place < length && place < text.length ? text[place] : NONE;
    }

    private boolean sign(char wanted) {
      if (peek() != wanted) {
        return false;
      }
      at++;
      return true;
    }

    private boolean expect(char wanted) {
      return sign(wanted) || fail(NO_SUCH_TEXT, at);
    }

    private static boolean isDigit(int octet) {
      return octet >= '0' && octet <= '9';
    }

    private boolean word(String wanted) {
      peek();
      int end = at;
      while (end < length && octetAt(end) >= 'a' && octetAt(end) <= 'z') {
        end++;
      }
      if (at == glued || end - at != wanted.length()) {
        return false;
      }
      for (int i = 0; i < wanted.length(); i++) {
        if (octetAt(at + i) != wanted.charAt(i)) {
          return false;
        }
      }
      at = end;
      glued = end;
      return true;
    }

    private boolean expectWord(String wanted) {
      return word(wanted) || fail(NO_SUCH_TEXT, at);
    }

    /** A number; NONE with a fault. */
    private int number(int least, int most) {
      if (!isDigit(peek()) || at == glued) {
        fail(NO_SUCH_TEXT, at);
        return NONE;
      }
      int begin = at;
      int number = 0;
      while (at < length && isDigit(octetAt(at))) {
        if (at - begin == 4) {
          fail(NO_SUCH_TEXT, at);
          return NONE;
        }
        number = 10 * number + octetAt(at) - '0';
        at++;
      }
      glued = at;
      if (number < least || number > most) {
        fail(NO_SUCH_NUMBER, begin);
        return NONE;
      }
      return number;
    }

    private boolean shape() {
      if (!expectWord("journal")) {
        return false;
      }
      draft.segments = number(2, SEGMENTS);
      if (draft.segments == NONE || !expectWord("blocks")) {
        return false;
      }
      draft.blocks = number(2, BLOCKS);
      if (draft.blocks == NONE || !expectWord("bytes")) {
        return false;
      }
      draft.bytes = number(16, 32);
      return draft.bytes != NONE;
    }

    private boolean statement() {
      peek();
      int begin = at;
      if (word("put")) {
        return record();
      }
      if (word("noise")) {
        draft.noise = number(0, 100);
        return draft.noise != NONE;
      }
      if (word("closes")) {
        if (draft.hasCloses) {
          return fail(TOO_MANY, begin);
        }
        draft.hasCloses = true;
        aim(draft.closes, CLOSES);
        return test();
      }
      if (word("takes")) {
        if (draft.hasTakes) {
          return fail(TOO_MANY, begin);
        }
        draft.hasTakes = true;
        aim(draft.takes, TAKES);
        return sum();
      }
      return fail(NO_SUCH_TEXT, begin);
    }

    private boolean record() {
      int key = number(0, KEYS - 1);
      if (key == NONE) {
        return false;
      }
      int value = number(0, VALUES - 1);
      if (value == NONE || !expectWord("size")) {
        return false;
      }
      int size = number(0, SIZES - 1);
      if (size == NONE) {
        return false;
      }
      draft.addPut(key, value, size);
      return true;
    }

    private int command() {
      if (word("first")) {
        return ASK_FIRST;
      }
      if (word("last")) {
        return ASK_LAST;
      }
      if (word("often")) {
        return ASK_OFTEN;
      }
      if (word("total")) {
        return ASK_TOTAL;
      }
      if (word("most")) {
        return ASK_MOST;
      }
      return word("least") ? ASK_LEAST : NONE;
    }

    /** What is read next goes into a formula. */
    private void aim(Formula target, int readFor) {
      formula = target;
      formula.clear();
      mode = readFor;
      open = 0;
    }

    /** One more of those that may stand open 6 at once. */
    private boolean opens(int place) {
      if (open >= OPEN_MOST) {
        return fail(TOO_DEEP, place);
      }
      open++;
      return true;
    }

    private boolean ends() {
      open--;
      return true;
    }

    private boolean test() {
      boolean stands = both();
      for (int i = 0; i < TAPE && stands && word("or"); i++) {
        stands = both();
        formula.emit(OR);
      }
      return stands;
    }

    private boolean both() {
      boolean stands = fact();
      for (int i = 0; i < TAPE && stands && word("and"); i++) {
        stands = fact();
        formula.emit(AND);
      }
      return stands;
    }

    private boolean fact() {
      peek();
      int begin = at;
      if (word("not")) {
        return negation(begin);
      }
      if (sign('[')) {
        return opens(begin) && test() && expect(']') && ends();
      }
      if (word("all")) {
        formula.emit(1);
        return true;
      }
      if (!sum()) {
        return false;
      }
      int sign = peek();
      if (sign != '<' && sign != '>' && sign != '=') {
        return fail(NO_SUCH_TEXT, at);
      }
      at++;
      boolean stands = sum();
      formula.emit(sign == '<' ? LESS : sign == '>' ? MORE : LIKE);
      return stands;
    }

    private boolean negation(int begin) {
      boolean stands = opens(begin) && fact() && ends();
      formula.emit(NOT);
      return stands;
    }

    private boolean sum() {
      boolean stands = product();
      for (int i = 0; i < TAPE && stands; i++) {
        int sign = peek();
        if (sign != '+' && sign != '-') {
          return true;
        }
        at++;
        stands = product();
        formula.emit(sign == '+' ? PLUS : MINUS);
      }
      return stands;
    }

    private boolean product() {
      boolean stands = part();
      for (int i = 0; i < TAPE && stands; i++) {
        int sign = peek();
        if (sign != '*' && sign != '/') {
          return true;
        }
        at++;
        stands = part();
        formula.emit(sign == '*' ? TIMES : OVER);
      }
      return stands;
    }

    private boolean part() {
      int next = peek();
      int begin = at;
      if (isDigit(next)) {
        int number = number(0, FACTS - 1);
        formula.emit(number);
        return number != NONE;
      }
      if (sign('(')) {
        return opens(begin) && sum() && expect(')') && ends();
      }
      if (word("min")) {
        return ofPair(LEAST);
      }
      if (word("max")) {
        return ofPair(MOST);
      }
      if (mode == QUESTION && word("octet")) {
        return ofPart(OCTET, begin);
      }
      if (mode == QUESTION && word("value")) {
        return ofPart(VALUE, begin);
      }
      int fact = factNamed();
      formula.emit(FACTS + fact);
      return fact != NONE || fail(NO_SUCH_TEXT, begin);
    }

    private boolean ofPair(int sign) {
      peek();
      int begin = at;
      boolean stands = expect('(') && opens(begin) && sum() && expect(',') && sum() && expect(')') && ends();
      formula.emit(sign);
      return stands;
    }

    private boolean ofPart(int sign, int begin) {
      boolean stands = opens(begin) && part() && ends();
      formula.emit(sign);
      return stands;
    }

    private int factNamed() {
      boolean ofSegment = mode == QUESTION;
      if (word("tick")) {
        return TICK;
      }
      if (!ofSegment && word("records")) {
        return RECORDS;
      }
      if (!ofSegment && word("payload")) {
        return PAYLOAD;
      }
      if (mode == CLOSES && word("age")) {
        return AGE;
      }
      if (mode == CLOSES && word("waiters")) {
        return WAITER_COUNT;
      }
      if (ofSegment && word("number")) {
        return NUMBER;
      }
      if (ofSegment && word("serial")) {
        return SERIAL;
      }
      if (ofSegment && word("first")) {
        return FIRST;
      }
      return ofSegment && word("frames") ? FRAMES : NONE;
    }
  }

  /** The bytes of all segments, one behind the other, and which of them are scars. */
  private static final class Disk {
    final int[] bytes = new int[DISK_BYTES];
    private final int[] scars = new int[DISK_BYTES];
    int segments;
    int size;
    private int block;

    void blank(Plan plan) {
      segments = plan.segments;
      block = plan.bytes;
      size = plan.blocks * plan.bytes;
      Arrays.fill(bytes, 0);
      Arrays.fill(scars, 0);
    }

    void copyFrom(Disk other) {
      segments = other.segments;
      block = other.block;
      size = other.size;
      copy(other.bytes, bytes);
      copy(other.scars, scars);
    }

    int total() {
      return segments * size;
    }

    boolean holds(int segment, int at) {
      return segment >= 0 && segment < segments && at >= 0 && at < size;
    }

    int octetAt(int segment, int at) {
      if (segment < 0 || segment >= segments || at < 0 || at >= size) {
        return NONE;
      }
      int address = segment * size + at;
      return address >= 0 && address < bytes.length ? bytes[address] : NONE;
    }

    int scarCount() {
      int count = 0;
      for (int i = 0; i < scars.length; i++) {
        count += scars[i];
      }
      return count;
    }

    void write(int address, int octet) {
      put(bytes, address, octet);
      put(scars, address, 0);
    }

    void turn(int address) {
      put(bytes, address, 255 - cell(bytes, address));
      put(scars, address, 1 - cell(scars, address));
    }

    /** All bytes of a segment from one on become 0: how many were not. */
    int wipe(int segment, int from) {
      int count = 0;
      for (int at = from; at < size; at++) {
        count += octetAt(segment, at) != 0 ? 1 : 0;
        write(segment * size + at, 0);
      }
      return count;
    }

    void writeHead(int segment, int serial, int number) {
      int address = segment * size;
      write(address, serial >> 8 & 255);
      write(address + 1, serial & 255);
      write(address + 2, number >> 8 & 255);
      write(address + 3, number & 255);
      write(address + 4, checkOf(CHECK_START, bytes, address, address + 4));
    }

    boolean headStands(int segment) {
      int address = segment * size;
      return holds(segment, 0)
          && serialOf(segment) != 0
          && octetAt(segment, 4) == checkOf(CHECK_START, bytes, address, address + 4);
    }

    int serialOf(int segment) {
      return octetAt(segment, 0) << 8 | octetAt(segment, 1);
    }

    int firstOf(int segment) {
      return octetAt(segment, 2) << 8 | octetAt(segment, 3);
    }

    int greatestSerial() {
      int greatest = 0;
      for (int segment = 0; segment < segments; segment++) {
        if (headStands(segment)) {
          greatest = Math.max(greatest, serialOf(segment));
        }
      }
      return greatest;
    }

    private int blockEnd(int at) {
      return block > 0 ? (at / block + 1) * block : size;
    }

    /** Where a frame begins that would begin at a byte, if its block had room for it. */
    int frameStart(int at) {
      int end = blockEnd(at);
      return end - at <= FRAME ? end : at;
    }

    /** How many bytes of so much payload a frame that begins at a byte has. */
    int frameLength(int at, int payload) {
      return Math.min(payload, blockEnd(at) - at - FRAME);
    }

    /** The byte behind a record's frames, laid from a byte on; NONE without room. */
    int behindRecord(int from, int payload) {
      int at = from;
      int left = payload;
      for (int turn = 0; left > 0 && turn <= BLOCKS; turn++) {
        int end = blockEnd(at);
        if (end - at <= FRAME) {
          at = end;
          end += block;
        }
        if (at >= size) {
          return NONE;
        }
        int length = Math.min(left, end - at - FRAME);
        at += FRAME + length;
        left -= length;
      }
      return left > 0 ? NONE : at;
    }

    /** Whether a frame that is right but for what a record tells begins at a byte. */
    boolean frameStands(int segment, int at, int serial) {
      int end = blockEnd(at);
      if (at + FRAME >= end || !holds(segment, end - 1)) {
        return false;
      }
      int kind = octetAt(segment, at + 1);
      int length = octetAt(segment, at + 2);
      if (kind < ONLY || kind > ENDS || length < 1 || at + FRAME + length > end) {
        return false;
      }
      int address = segment * size + at;
      return octetAt(segment, at + 3) == (serial & 255)
          && octetAt(segment, at) == checkOf(CHECK_START, bytes, address + 1, address + FRAME + length);
    }
  }

  /** Goes along the right frames behind a segment's head. */
  private static final class FrameReader {
    int begin;
    int kind;
    int length;
    /** Behind the latest right frame; once advance() refused, where no right one is. */
    int at;
    int key;
    int value;
    private int segment;
    private int serial;
    private int payload;
    private boolean inside;

    /** Begins behind a segment's head. */
    void open(Disk disk, int which) {
      segment = which;
      serial = disk.serialOf(which);
      at = HEAD;
      inside = false;
    }

    /** Whether a right frame is next; then it is behind that. */
    boolean advance(Disk disk) {
      at = disk.frameStart(at);
      if (!disk.frameStands(segment, at, serial) || !canBe(disk.octetAt(segment, at + 1))) {
        return false;
      }
      int had = inside ? payload : 0;
      kind = disk.octetAt(segment, at + 1);
      length = disk.octetAt(segment, at + 2);
      for (int i = 0; i < length && had + i < PAYLOAD_LEAST; i++) {
        takeOctet(had + i, disk.octetAt(segment, at + FRAME + i));
      }
      if (isLast() && !recordStands(had + length)) {
        return false;
      }
      payload = had + length;
      inside = !isLast();
      begin = at;
      at += FRAME + length;
      return true;
    }

    /** Whether the latest frame was the last one of a record. */
    boolean isLast() {
      return kind == ONLY || kind == ENDS;
    }

    /** How many right frames there are; 0 without a right head. */
    int frameCount(Disk disk, int which) {
      if (!disk.headStands(which)) {
        return 0;
      }
      open(disk, which);
      int count = 0;
      while (count < SEGMENT_BYTES && advance(disk)) {
        count++;
      }
      return count;
    }

    /** Whether a frame that is right but for its kind and record begins behind the byte where no right one is. */
    boolean anyBehind(Disk disk) {
      for (int from = at + 1; from < disk.size; from++) {
        if (disk.frameStands(segment, from, serial)) {
          return true;
        }
      }
      return false;
    }

    private boolean canBe(int next) {
      return (next == ONLY || next == BEGINS) != inside;
    }

    private void takeOctet(int place, int octet) {
      if (place == 0) {
        key = octet;
      } else if (place == 1) {
        value = octet << 8;
      } else {
        value = value & 0xff00 | octet;
      }
    }

    private boolean recordStands(int bytes) {
      return bytes >= PAYLOAD_LEAST && key < KEYS && value < VALUES;
    }
  }

  /** What is told by a disk and a snap alone; the disk stays as it is. */
  private static final class Recovery {
    final FrameReader reader = new FrameReader();
    final int[] table = new int[KEYS];
    /** Of each segment the greatest number of a record read there. */
    final int[] tops = new int[SEGMENTS];
    int next;
    int segment;
    int at;
    int serial;
    boolean damaged;

    void read(Disk disk, int snapNumber, int[] snapTable) {
      copy(snapTable, table);
      Arrays.fill(tops, NONE);
      next = snapNumber;
      segment = NONE;
      int reading = beginning(disk, snapNumber);
      if (reading != NONE) {
        next = disk.firstOf(reading);
      }
      for (int turn = 0; reading != NONE && turn < SEGMENTS; turn++) {
        readSegment(disk, reading, snapNumber);
        reading = following(disk);
      }
      if (segment == NONE || next < snapNumber) {
        withoutGround(snapNumber);
      } else {
        damaged = disk.greatestSerial() > serial || reader.anyBehind(disk);
      }
    }

    int valueCount() {
      int count = 0;
      for (int key = 0; key < table.length; key++) {
        count += table[key] != NONE ? 1 : 0;
      }
      return count;
    }

    private int beginning(Disk disk, int snapNumber) {
      int found = NONE;
      for (int i = 0; i < disk.segments; i++) {
        if (disk.headStands(i) && disk.firstOf(i) <= snapNumber
            && (found == NONE || disk.serialOf(i) > disk.serialOf(found))) {
          found = i;
        }
      }
      return found;
    }

    private int following(Disk disk) {
      int found = NONE;
      for (int i = 0; i < disk.segments; i++) {
        if (disk.headStands(i) && disk.serialOf(i) > serial && disk.firstOf(i) == next
            && (found == NONE || disk.serialOf(i) > disk.serialOf(found))) {
          found = i;
        }
      }
      return found;
    }

    private void readSegment(Disk disk, int which, int snapNumber) {
      segment = which;
      serial = disk.serialOf(which);
      at = HEAD;
      reader.open(disk, which);
      for (int turn = 0; turn < SEGMENT_BYTES && reader.advance(disk); turn++) {
        if (reader.isLast()) {
          if (next >= snapNumber) {
            put(table, reader.key, reader.value);
          }
          put(tops, which, next);
          next++;
          at = reader.at;
        }
      }
    }

    private void withoutGround(int snapNumber) {
      Arrays.fill(tops, NONE);
      next = snapNumber;
      segment = 0;
      at = HEAD;
      serial = 0;
      damaged = true;
    }
  }

  /** The bytes on their way, in their order. */
  private static final class Flight {
    private final int[] addresses = new int[DISK_BYTES];
    final int[] octets = new int[DISK_BYTES];
    int count;
    int ticks;

    void clear() {
      count = 0;
      ticks = 0;
    }

    void copyFrom(Flight other) {
      count = other.count;
      ticks = other.ticks;
      copy(other.addresses, addresses);
      copy(other.octets, octets);
    }

    void add(int address, int octet) {
      if (count >= 0 && count < addresses.length && count < octets.length) {
        addresses[count] = address;
        octets[count] = octet;
        count++;
      }
    }

    void arrive(Disk disk, int from, int to) {
      for (int i = from; i < to && i < count; i++) {
        disk.write(cell(addresses, i), cell(octets, i));
      }
    }
  }

  /** The records that are not acknowledged: those on their way, behind them those that wait. */
  private static final class Queue {
    final int[] keys = new int[PENDING];
    final int[] values = new int[PENDING];
    final int[] sizes = new int[PENDING];
    private final int[] born = new int[PENDING];
    /** The first number that is not acknowledged. */
    int first;
    int flying;
    int count;

    void clear(int number) {
      first = number;
      flying = 0;
      count = 0;
    }

    void copyFrom(Queue other) {
      first = other.first;
      flying = other.flying;
      count = other.count;
      copy(other.keys, keys);
      copy(other.values, values);
      copy(other.sizes, sizes);
      copy(other.born, born);
    }

    int behindLast() {
      return first + count;
    }

    int waitingCount() {
      return count - flying;
    }

    void add(int key, int value, int size, int tick) {
      put(keys, count, key);
      put(values, count, value);
      put(sizes, count, size);
      put(born, count, tick);
      count++;
    }

    int payloadAt(int at) {
      return PAYLOAD_LEAST + cell(sizes, at);
    }

    /** How many bytes of payload the first of those that wait have. */
    int payloadOf(int records) {
      int payload = 0;
      for (int i = 0; i < records; i++) {
        payload += payloadAt(flying + i);
      }
      return payload;
    }

    int firstBorn() {
      return cell(born, flying);
    }

    int latestOf(int key) {
      int value = NONE;
      for (int i = 0; i < count; i++) {
        if (cell(keys, i) == key) {
          value = cell(values, i);
        }
      }
      return value;
    }

    /** Those on their way are acknowledged. */
    void drop() {
      for (int i = flying; i < count; i++) {
        put(keys, i - flying, cell(keys, i));
        put(values, i - flying, cell(values, i));
        put(sizes, i - flying, cell(sizes, i));
        put(born, i - flying, cell(born, i));
      }
      first += flying;
      count -= flying;
      flying = 0;
    }
  }

  /** Who waits for which record, as they began, and the releases that are kept. */
  private static final class Waiters {
    private final int[] who = new int[WAITERS];
    private final int[] numbers = new int[WAITERS];
    int count;
    private final int[] keptTick = new int[KEPT];
    private final int[] keptWho = new int[KEPT];
    private final int[] keptNumber = new int[KEPT];
    private int keptTotal;

    void clear() {
      count = 0;
    }

    void clearKept() {
      keptTotal = 0;
    }

    void copyFrom(Waiters other) {
      count = other.count;
      keptTotal = other.keptTotal;
      copy(other.who, who);
      copy(other.numbers, numbers);
      copy(other.keptTick, keptTick);
      copy(other.keptWho, keptWho);
      copy(other.keptNumber, keptNumber);
    }

    void add(int waiter, int number) {
      put(who, count, waiter);
      put(numbers, count, number);
      count++;
    }

    int awaitedBy(int waiter) {
      for (int i = 0; i < count; i++) {
        if (cell(who, i) == waiter) {
          return cell(numbers, i);
        }
      }
      return NONE;
    }

    /** Releases those who wait for a record: how many. */
    int release(int number, int tick) {
      int left = 0;
      int before = count;
      for (int i = 0; i < before; i++) {
        if (cell(numbers, i) == number) {
          keep(tick, cell(who, i), number);
        } else {
          put(who, left, cell(who, i));
          put(numbers, left, cell(numbers, i));
          left++;
        }
      }
      count = left;
      return before - left;
    }

    private void keep(int tick, int waiter, int number) {
      int at = keptTotal % KEPT;
      put(keptTick, at, tick);
      put(keptWho, at, waiter);
      put(keptNumber, at, number);
      keptTotal++;
    }

    int told() {
      return Math.min(keptTotal, KEPT);
    }

    int keptAt(int k, int what) {
      if (k < 0 || k >= told()) {
        return NONE;
      }
      int at = (keptTotal - told() + k) % KEPT;
      switch (what) {
        case 0: return cell(keptTick, at);
        case 1: return cell(keptWho, at);
        case 2: return cell(keptNumber, at);
        default: return NONE;
      }
    }
  }

  /** Goes from THE PLACE on where records are laid, opening segments. */
  private static final class Pen {
    private int segment;
    private int at;
    private int serial;
    private int greatest;
    /** A bit for each segment in which it was. */
    private int visited;

    private void start(State state) {
      segment = state.placeSegment;
      at = state.placeAt;
      serial = state.placeSerial;
      greatest = state.greatest;
      visited = 1 << segment;
    }

    /** How many records of so much payload have room. */
    int roomFor(State state, int payload) {
      start(state);
      int count = 0;
      while (count < DISK_BYTES && goesTo(state, payload)) {
        at = state.disk.behindRecord(at, payload);
        count++;
      }
      return count;
    }

    boolean hasRoom(State state, int records) {
      start(state);
      for (int i = 0; i < records; i++) {
        int payload = state.queue.payloadAt(state.queue.flying + i);
        if (!goesTo(state, payload)) {
          return false;
        }
        at = state.disk.behindRecord(at, payload);
      }
      return true;
    }

    /** Lays the first of those that wait; there must be room for them. */
    void lay(State state, int records) {
      start(state);
      for (int i = 0; i < records; i++) {
        int before = segment;
        goesTo(state, state.queue.payloadAt(i));
        if (segment != before) {
          writeHead(state, state.queue.first + i);
        }
        writeRecord(state, i);
        put(state.tops, segment, state.queue.first + i);
      }
      state.queue.flying = records;
      state.movePlace(segment, at, serial, greatest);
    }

    /** Whether a record has room where it is or in a segment that it opens for it. */
    private boolean goesTo(State state, int payload) {
      Disk disk = state.disk;
      if (disk.behindRecord(at, payload) != NONE) {
        return true;
      }
      int next = freeSegment(state);
      if (next == NONE || disk.behindRecord(HEAD, payload) == NONE) {
        return false;
      }
      segment = next;
      visited |= 1 << next;
      at = HEAD;
      greatest++;
      serial = greatest;
      return true;
    }

    private int freeSegment(State state) {
      for (int i = 0; i < state.disk.segments; i++) {
        if ((visited & 1 << i) == 0 && state.isFree(i)) {
          return i;
        }
      }
      return NONE;
    }

    private void writeHead(State state, int number) {
      Flight flight = state.flight;
      int address = segment * state.disk.size;
      int from = flight.count;
      flight.add(address, serial >> 8 & 255);
      flight.add(address + 1, serial & 255);
      flight.add(address + 2, number >> 8 & 255);
      flight.add(address + 3, number & 255);
      flight.add(address + 4, checkOf(CHECK_START, flight.octets, from, flight.count));
    }

    private void writeRecord(State state, int which) {
      int payload = state.queue.payloadAt(which);
      int from = 0;
      for (int turn = 0; from < payload && turn <= BLOCKS; turn++) {
        int start = state.disk.frameStart(at);
        for (int i = at; i < start; i++) {
          state.flight.add(segment * state.disk.size + i, 0);
        }
        at = start;
        int length = state.disk.frameLength(at, payload - from);
        boolean isLast = from + length == payload;
        int kind = from == 0 ? (isLast ? ONLY : BEGINS) : (isLast ? ENDS : GOES_ON);
        writeFrame(state, which, from, length, kind);
        at += FRAME + length;
        from += length;
      }
    }

    private void writeFrame(State state, int which, int from, int length, int kind) {
      Flight flight = state.flight;
      Queue queue = state.queue;
      int address = segment * state.disk.size + at;
      int check = flight.count;
      flight.add(address, 0);
      flight.add(address + 1, kind);
      flight.add(address + 2, length);
      flight.add(address + 3, serial & 255);
      for (int i = 0; i < length; i++) {
        int octet = payloadOctet(cell(queue.keys, which), cell(queue.values, which), from + i);
        flight.add(address + FRAME + i, octet);
      }
      put(flight.octets, check, checkOf(CHECK_START, flight.octets, check + 1, flight.count));
    }
  }

  /** All that an act changes and its undoing brings back. */
  private static final class State {
    private Plan plan;
    final Disk disk = new Disk();
    final Flight flight = new Flight();
    final Queue queue = new Queue();
    final Waiters waiters = new Waiters();
    final int[] table = new int[KEYS];
    final int[] snapTable = new int[KEYS];
    int snapNumber;
    /** Of each segment the greatest number of a record that lies there. */
    final int[] tops = new int[SEGMENTS];
    int tick;
    int placeSegment;
    int placeAt;
    int placeSerial;
    /** The greatest serial by which a segment was opened so far. */
    int greatest;
    boolean halted;

    State(Plan told) {
      plan = told;
      Arrays.fill(table, NONE);
      Arrays.fill(snapTable, NONE);
    }

    void blank(Plan told) {
      plan = told;
      disk.blank(told);
      flight.clear();
      queue.clear(0);
      waiters.clear();
      waiters.clearKept();
      Arrays.fill(table, NONE);
      Arrays.fill(snapTable, NONE);
      Arrays.fill(tops, NONE);
      snapNumber = 0;
      tick = 0;
      greatest = 0;
      halted = false;
    }

    void copyFrom(State other) {
      plan = other.plan;
      disk.copyFrom(other.disk);
      flight.copyFrom(other.flight);
      queue.copyFrom(other.queue);
      waiters.copyFrom(other.waiters);
      copy(other.table, table);
      copy(other.snapTable, snapTable);
      copy(other.tops, tops);
      snapNumber = other.snapNumber;
      tick = other.tick;
      movePlace(other.placeSegment, other.placeAt, other.placeSerial, other.greatest);
      halted = other.halted;
    }

    void movePlace(int segment, int at, int serial, int greatestSerial) {
      placeSegment = segment;
      placeAt = at;
      placeSerial = serial;
      greatest = greatestSerial;
    }

    /** Segment 0 is opened, its head on the disk at once. */
    void openAtOnce(int number) {
      disk.writeHead(0, greatest + 1, number);
      movePlace(0, HEAD, greatest + 1, greatest + 1);
    }

    /**
     * Whether a segment is free by what lies there. Bytes on their way need no look: they are of a record that lies
     * there, and none on its way is below the snap's number.
     */
    boolean isFree(int segment) {
      return segment >= 0 && segment < tops.length && tops[segment] < snapNumber;
    }

    boolean takesRecord(int key, int value, int size) {
      return !halted && queue.waitingCount() < WAITING
          && key >= 0 && key < KEYS && value >= 0 && value < VALUES && size >= 0 && size < SIZES
          && disk.behindRecord(HEAD, PAYLOAD_LEAST + size) != NONE;
    }

    /** A tick, by a rule or, if that is 0, by the test: how many are released. */
    int passTick(Pen pen, int rule) {
      int released = 0;
      if (flight.count > 0) {
        flight.ticks--;
        released = flight.ticks <= 0 ? acknowledge() : 0;
      }
      int waiting = queue.waitingCount();
      if (flight.count == 0 && waiting > 0 && !halted && (rule > 0 || testHolds())) {
        close(pen, rule > 0 ? Math.min(rule, waiting) : waiting);
      }
      tick++;
      return released;
    }

    private int acknowledge() {
      flight.arrive(disk, 0, flight.count);
      flight.clear();
      int released = 0;
      for (int i = 0; i < queue.flying; i++) {
        put(table, cell(queue.keys, i), cell(queue.values, i));
        released += waiters.release(queue.first + i, tick);
      }
      queue.drop();
      return released;
    }

    private void tellGroup(Formula formula, int records) {
      formula.tell(TICK, tick);
      formula.tell(RECORDS, records);
      formula.tell(PAYLOAD, queue.payloadOf(records));
    }

    private boolean testHolds() {
      Formula test = plan.closes;
      tellGroup(test, queue.waitingCount());
      test.tell(AGE, tick - queue.firstBorn());
      test.tell(WAITER_COUNT, waiters.count);
      return test.evaluate() != 0;
    }

    private void close(Pen pen, int records) {
      if (!pen.hasRoom(this, records)) {
        return;
      }
      tellGroup(plan.takes, records);
      int ticks = plan.takes.evaluate();
      pen.lay(this, records);
      flight.ticks = Math.max(1, Math.min(TAKES_MOST, ticks));
    }

    void takeSnap() {
      copy(table, snapTable);
      snapNumber = queue.first;
    }

    void crashBy(int k, Recovery recovery) {
      flight.arrive(disk, 0, k);
      flight.clear();
      waiters.clear();
      recover(recovery);
    }

    void recover(Recovery recovery) {
      recovery.read(disk, snapNumber, snapTable);
      copy(recovery.table, table);
      copy(recovery.tops, tops);
      queue.clear(recovery.next);
      movePlace(recovery.segment, recovery.at, recovery.serial, greatest);
      halted = recovery.damaged;
      if (!halted) {
        disk.wipe(placeSegment, placeAt);
      }
    }

    /** What is behind THE END is given up: how many bytes of it were not 0. */
    int giveUpRest() {
      halted = false;
      boolean hasGround = placeSerial != 0;
      int count = hasGround ? disk.wipe(placeSegment, placeAt) : 0;
      for (int i = 0; i < disk.segments; i++) {
        boolean isGreater = i != placeSegment && disk.headStands(i) && disk.serialOf(i) > placeSerial;
        if (!hasGround || isGreater) {
          count += disk.wipe(i, 0);
        }
      }
      if (!hasGround) {
        openAtOnce(queue.first);
      }
      return count;
    }
  }
}
