import java.util.ArrayList;
import java.util.Collections;
import java.util.List;
import java.util.Random;

/** Journals and questions as they come, some of them with faults. */
final class RandomTexts {
  private static final int CLOSES = 0;
  private static final int TAKES = 1;
  private static final int QUESTION = 2;
  private static final String[][] WORDS = {
    {"tick", "records", "payload", "age", "waiters"},
    {"tick", "records", "payload"},
    {"number", "serial", "first", "frames", "tick"}
  };
  private static final String SIGNS = " \n;()[]<>=+-*/,0123456789abcdefz_A";
  private static final String[] PIECES = {
    "((((((", "[[[", "not not not ", "min(max(", "octet value ", "closes all;", "takes 1;", "00000", "12345", "journal ",
    "put ", "and ", "or ", "all ", "tick", "size ", "noise 7;", "first", "records", "age", "number", "]]", "))", ";;",
    "not[", "value(", "noise 0;".repeat(33)
  };

  private final Random random;

  RandomTexts(Random random) {
    this.random = random;
  }

  private boolean oneOf(int of) {
    return random.nextInt(of) == 0;
  }

  private String pick(String... of) {
    return of[random.nextInt(of.length)];
  }

  private String blank() {
    return pick("", "", "", "", "", " ", "\n", "  ");
  }

  // ---- texts that stand

  String journal() {
    StringBuilder text = new StringBuilder(blank() + "journal " + (2 + random.nextInt(3)) + " blocks "
        + (2 + random.nextInt(3)) + " bytes " + (16 + random.nextInt(oneOf(2) ? 4 : 17)) + blank() + ";");
    for (String statement : statements()) {
      text.append(blank()).append(statement).append(blank()).append(';');
    }
    return text.toString();
  }

  private List<String> statements() {
    List<String> all = new ArrayList<>();
    if (!oneOf(3)) {
      all.add("closes " + pick("records>0", "records>1", "all", "waiters>0 or age>3", "payload>20 or age>2",
          test(3, CLOSES), test(2, CLOSES), test(1, CLOSES), test(0, CLOSES)));
    }
    if (!oneOf(3)) {
      all.add("takes " + pick("1", "2", "payload/10", "3-records", "200", sum(3, TAKES), sum(2, TAKES), sum(1, TAKES)));
    }
    if (oneOf(2)) {
      all.add("noise " + pick("0", "5", "30", "60", "100"));
    }
    int puts = random.nextInt(oneOf(3) ? 20 : 4);
    for (int i = 0; i < puts; i++) {
      all.add("put " + random.nextInt(16) + " " + random.nextInt(1000) + " size " + random.nextInt(oneOf(2) ? 6 : 41));
    }
    Collections.shuffle(all, random);
    return all;
  }

  String question() {
    String text = oneOf(2) ? pick("first ", "last ", "often ") + test(random.nextInt(4), QUESTION)
        : pick("total ", "most ", "least ") + sum(random.nextInt(4), QUESTION);
    return blank() + text + blank();
  }

  private String test(int depth, int mode) {
    return both(depth, mode) + (oneOf(4) ? " or " + both(depth, mode) : "");
  }

  private String both(int depth, int mode) {
    return fact(depth, mode) + (oneOf(4) ? " and " + fact(depth, mode) : "");
  }

  private String fact(int depth, int mode) {
    switch (random.nextInt(depth > 0 ? 8 : 6)) {
      case 0: return " all";
      case 6: return " not " + fact(depth - 1, mode);
      case 7: return blank() + "[" + test(depth - 1, mode) + blank() + "]";
      default: return sum(depth, mode) + blank() + pick("<", ">", "=") + sum(depth, mode);
    }
  }

  private String sum(int depth, int mode) {
    return product(depth, mode) + (oneOf(2) ? blank() + pick("+", "-") + product(depth, mode) : "")
        + (oneOf(4) ? blank() + pick("+", "-") + product(depth, mode) : "");
  }

  private String product(int depth, int mode) {
    return part(depth, mode) + (oneOf(3) ? blank() + pick("*", "/") + part(depth, mode) : "")
        + (oneOf(6) ? blank() + pick("*", "/") + part(depth, mode) : "");
  }

  private String part(int depth, int mode) {
    switch (random.nextInt(depth > 0 ? 9 : 3)) {
      case 0: return blank() + random.nextInt(12);
      case 1: return blank() + random.nextInt(oneOf(9) ? 10000 : 200);
      case 3: return blank() + "(" + sum(depth - 1, mode) + blank() + ")";
      case 4: return pick(" min", " max") + blank() + "(" + sum(depth - 1, mode) + "," + sum(depth - 1, mode) + ")";
      case 5:
        return mode == QUESTION ? pick(" octet ", " value ") + part(depth - 1, mode) : " " + pick(WORDS[mode]);
      default: return " " + pick(WORDS[mode]);
    }
  }

  // ---- texts that may not stand

  String changed(String text) {
    StringBuilder changed = new StringBuilder(text);
    for (int left = 1 + random.nextInt(3); left > 0; left--) {
      int at = random.nextInt(changed.length() + 1);
      switch (random.nextInt(5)) {
        case 0: changed.insert(at, SIGNS.charAt(random.nextInt(SIGNS.length()))); break;
        case 1: changed.insert(at, pick(PIECES)); break;
        case 2: changed.delete(at, at + 1); break;
        case 3: changed.replace(at, at + 1, "" + SIGNS.charAt(random.nextInt(SIGNS.length()))); break;
        default: changed.setLength(at); break;
      }
    }
    return changed.toString();
  }
}
