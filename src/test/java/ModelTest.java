import java.lang.reflect.Method;
import java.lang.reflect.Modifier;
import java.util.ArrayList;
import java.util.Arrays;
import java.util.HashMap;
import java.util.List;
import java.util.Map;
import java.util.Random;

/** All promises: runs of calls as they come, each answered by the program as by the document told a second time. */
public final class ModelTest {
  private static final int RUNS = 1000;
  private static final int NONE = -1;
  /** From here on a run ends: a step makes some 200 calls at the most, so that the 512th is never passed. */
  private static final int CALLS = 300;
  private static final Map<String, Method> OF_PROGRAM = methods(GroupJournal.class);
  private static final Map<String, Method> OF_MODEL = methods(Model.class);

  private final Random random;
  private final RandomTexts texts;
  private final RandomImages images;
  private final Trial trial;
  private final Model model = new Model();
  private final List<String> calls = new ArrayList<>();

  /** Runs from a seed on, as many as are told; without words those that .ci/run asks for. */
  public static void main(String[] args) throws ReflectiveOperationException {
    int from = args.length > 0 ? Integer.parseInt(args[0]) : 0;
    int runs = args.length > 1 ? Integer.parseInt(args[1]) : RUNS;
    new Trial("the face").holds("both have the same calls", OF_PROGRAM.keySet().equals(OF_MODEL.keySet()));
    boolean isAlike = true;
    for (int run = from; run < from + runs && isAlike; run++) {
      isAlike = new ModelTest(run).isAlike();
    }
    Trial.close();
  }

  private ModelTest(int run) {
    random = new Random(run);
    texts = new RandomTexts(random);
    images = new RandomImages(random);
    trial = new Trial("run " + run);
  }

  private static Map<String, Method> methods(Class<?> of) {
    Map<String, Method> methods = new HashMap<>();
    for (Method method : of.getDeclaredMethods()) {
      if (Modifier.isPublic(method.getModifiers())) {
        methods.put(method.getName(), method);
      }
    }
    return methods;
  }

  /** Ends a run at the first answer that is not as due. */
  private static final class Different extends RuntimeException {
    private static final long serialVersionUID = 1;
  }

  private boolean isAlike() throws ReflectiveOperationException {
    try {
      run();
      return true;
    } catch (Different different) {
      calls.forEach(System.out::println);
      return false;
    }
  }

  private void call(String name, Object... args) throws ReflectiveOperationException {
    Object got = OF_PROGRAM.get(name).invoke(trial.of, args);
    Object want = OF_MODEL.get(name).invoke(model, args);
    String call = name + Arrays.toString(args);
    calls.add(call + " = " + got);
    trial.due(call, number(got), number(want));
    if (number(got) != number(want)) {
      throw new Different();
    }
  }

  private static long number(Object answer) {
    return answer instanceof Boolean ? ((Boolean) answer ? 1 : 0) : ((Number) answer).longValue();
  }

  private void lay(int... octets) throws ReflectiveOperationException {
    for (int at = 0; at < octets.length; at += 20) {
      Object[] numbers = new Object[5];
      for (int i = 0; i < 5; i++) {
        numbers[i] = Trial.word(octets, at + 4 * i);
      }
      call("feed", numbers);
    }
    call("end", octets.length);
  }

  /** A text that is too long for the tape, or would take too many calls, is cut. */
  private void tell(String name, String text, int most) throws ReflectiveOperationException {
    lay(Trial.octets(text.substring(0, Math.min(most, text.length()))));
    call(name);
    call("fault", 0);
    call("fault", 1);
  }

  private boolean oneOf(int of) {
    return random.nextInt(of) == 0;
  }

  private int upTo(int most) {
    return random.nextInt(most + 1);
  }

  /** A number from -1 to one more than there are. */
  private int about(int count) {
    return random.nextInt(count + 2) - 1;
  }

  // ---- a run

  private void run() throws ReflectiveOperationException {
    while (oneOf(3) && calls.size() < CALLS / 3) {
      act();
      look();
    }
    tell("journal", oneOf(4) ? texts.changed(texts.journal()) : texts.journal(), 1600);
    if (model.world() == null) {
      tell("journal", "journal " + (2 + upTo(2)) + " blocks 2 bytes " + (16 + upTo(3)) + ";closes records>1;takes 2;", 60);
    }
    while (calls.size() < CALLS) {
      act();
      look();
      if (oneOf(60)) {
        tell("journal", oneOf(2) ? texts.changed(texts.journal()) : texts.journal(), 300);
      }
    }
  }

  // ---- acts

  private void act() throws ReflectiveOperationException {
    ModelWorld world = model.world();
    int way = world == null ? 0 : world.way.size();
    switch (random.nextInt(20)) {
      case 0: case 1: case 2: case 3: append(); break;
      case 4: case 5: call("waits", about(8), (world == null ? 0 : world.notAcknowledged()) + about(3)); break;
      case 6: case 7: case 8: case 9: call("ticks", oneOf(15) ? about(100) : 1 + upTo(oneOf(2) ? 1 : 7)); break;
      case 10: call("chance", oneOf(15) ? about(100) : 1 + upTo(5)); break;
      case 11: case 12: call("snap"); break;
      case 13: case 14: call("crash", oneOf(20) ? about(way + 1) : upTo(way)); break;
      case 15: call("giveUp"); break;
      case 16: flip(); break;
      case 17: undoOrSeed(); break;
      case 18: see(); break;
      default: on(); break;
    }
  }

  private void append() throws ReflectiveOperationException {
    for (int left = 1 + upTo(3); left > 0; left--) {
      int size = oneOf(20) ? 39 + upTo(2) : oneOf(30) ? -1 : upTo(oneOf(2) ? 3 : 19);
      call("append", oneOf(12) ? about(16) : upTo(4), oneOf(20) ? about(1000) : upTo(999), size);
    }
  }

  private void flip() throws ReflectiveOperationException {
    ModelWorld world = model.world();
    if (world == null || oneOf(3)) {
      call("flip", about(4), about(64));
    } else if (oneOf(2)) {
      call("flip", upTo(world.plan.segments - 1), upTo(oneOf(2) ? 5 : 29));
    } else {
      call("flip", world.segment, Math.max(0, world.at - upTo(11)));
    }
  }

  private void undoOrSeed() throws ReflectiveOperationException {
    if (oneOf(3)) {
      call("seed", oneOf(5) ? -upTo(2) : random.nextInt());
      return;
    }
    for (int left = 1 + upTo(oneOf(10) ? 21 : 2); left > 0; left--) {
      call("undo");
    }
  }

  private void see() throws ReflectiveOperationException {
    int rows = oneOf(12) ? upTo(17) : 1 + upTo(1);
    int[] octets = new int[3 * rows + (oneOf(20) ? 1 : 0)];
    for (int i = 0; i < rows; i++) {
      int key = oneOf(40) ? 16 : upTo(5);
      int value = oneOf(3) ? model.value(key) : model.soon(key);
      int told = oneOf(30) ? 1001 : value == NONE ? 1000 : value;
      octets[3 * i] = key;
      octets[3 * i + 1] = told >> 8;
      octets[3 * i + 2] = told & 255;
    }
    lay(octets);
    call("see");
  }

  private void on() throws ReflectiveOperationException {
    if (model.world() == null || oneOf(2)) {
      call("on");
      return;
    }
    lay(images.of(model.world()));
    call("on");
    call("has", 14);
    if (oneOf(2)) {
      call("giveUp");
    }
  }

  // ---- what is told

  private void look() throws ReflectiveOperationException {
    for (int left = 1 + upTo(7); left > 0; left--) {
      lookAt(random.nextInt(25));
    }
    if (model.world() != null) {
      // the last byte of an image tells whether any byte of the disk is another one
      call("image");
      call("octet", model.image() - 1);
      call("place", upTo(2));
      call("has", 4);
      call("has", 10);
    }
  }

  private void lookAt(int kind) throws ReflectiveOperationException {
    ModelWorld world = model.world();
    int way = world == null ? 0 : world.way.size();
    int first = world == null ? 0 : world.notAcknowledged();
    switch (kind) {
      case 0: case 1: call("has", about(15)); break;
      case 2: call("segment", about(4), about(4)); break;
      case 3: call("frame", about(4), about(5), about(3)); break;
      case 4: call("octetOf", about(4), about(world == null ? 1 : world.plan.size())); break;
      case 5: call("place", about(3)); break;
      case 6: call("value", about(16)); break;
      case 7: call("soon", about(16)); break;
      case 8: call("waiting", about(5), about(4)); break;
      case 9: call("waiter", about(8)); break;
      case 10: call("kept", about(model.has(11)), about(3)); break;
      case 11: call("later", oneOf(8) ? about(101) : upTo(11), about(3)); break;
      case 12: call("when", first + about(6)); break;
      case 13: call("rule", about(9), about(2)); break;
      case 14: call("best", about(2)); break;
      case 15: call("room", oneOf(4) ? about(41) : upTo(9)); break;
      case 16: case 17: call("recovers", oneOf(10) ? about(way + 1) : upTo(way), about(5)); break;
      case 18: call("flips", about(3)); break;
      case 19: call("arrived", oneOf(3) ? NONE : about(way + 1)); break;
      case 20: call("tells", about(2)); break;
      case 21: case 22: tell("ask", oneOf(3) ? texts.changed(texts.question()) : texts.question(), 300); break;
      case 23: call("status", about(7)); break;
      default: call("octet", about(600)); break;
    }
  }
}
