import java.util.ArrayList;
import java.util.List;
import java.util.Map;

/** The texts of the document told a second time: first cut into tokens, then read into a tree of functions. */
final class ModelText {
  private static final int DIGITS = 4;
  private static final int OPEN = 6;
  private static final int STATEMENTS = 40;
  private static final long LIMIT = 1000000;

  /** A TEST (1 or 0) or a SUM of what is told. */
  interface Node {
    long of(Map<String, Long> facts);
  }

  record Put(int key, int value, int size) {
  }

  static final class Plan {
    int segments;
    int blocks;
    int bytes;
    int noise;
    int statements;
    Node closes;
    Node takes;
    final List<Put> puts = new ArrayList<>();

    int size() {
      return blocks * bytes;
    }
  }

  record Question(String asked, Node node) {
  }

  static final class Fault extends Exception {
    private static final long serialVersionUID = 1;
    final int kind;
    final int place;

    Fault(int kind, int place) {
      super(null, null, false, false);
      this.kind = kind;
      this.place = place;
    }
  }

  private enum Kind { WORD, NUMBER, SIGN, GLUED, END }

  private record Token(Kind kind, String text, int place) {
  }

  private final List<Token> tokens = new ArrayList<>();
  private int next = 0;
  private List<String> facts = List.of();
  private List<String> ofParts = List.of();
  private int open = 0;

  private ModelText(int[] text) {
    int at = 0;
    int end = -1;
    while (at < text.length) {
      int from = at;
      at = behind(text, from);
      boolean isSign = kindOf(text[from]) == Kind.SIGN;
      if (text[from] != ' ' && text[from] != '\n') {
        Kind kind = !isSign && from == end ? Kind.GLUED : kindOf(text[from]);
        tokens.add(new Token(kind, new String(text, from, at - from), from));
        end = isSign ? end : at;
      }
    }
    tokens.add(new Token(Kind.END, "", text.length));
  }

  /** The byte behind the word, the number or the one sign that begins at a byte. */
  private static int behind(int[] text, int from) {
    int at = from + 1;
    while (kindOf(text[from]) != Kind.SIGN && at < text.length && kindOf(text[at]) == kindOf(text[from])) {
      at++;
    }
    return at;
  }

  private static Kind kindOf(int octet) {
    return octet >= 'a' && octet <= 'z' ? Kind.WORD : octet >= '0' && octet <= '9' ? Kind.NUMBER : Kind.SIGN;
  }

  static Plan journal(int[] text) throws Fault {
    return new ModelText(text).journal();
  }

  static Question question(int[] text) throws Fault {
    return new ModelText(text).question();
  }

  // ---- tokens

  private Token token() {
    return tokens.get(next);
  }

  private boolean is(String text) {
    return token().kind != Kind.GLUED && token().text.equals(text);
  }

  private boolean took(String text) {
    boolean is = token().kind != Kind.END && is(text);
    next += is ? 1 : 0;
    return is;
  }

  private void need(String text) throws Fault {
    if (!took(text)) {
      throw wrong();
    }
  }

  private Fault wrong() {
    return new Fault(1, token().place);
  }

  private int number(int least, int most) throws Fault {
    Token t = token();
    if (t.kind != Kind.NUMBER) {
      throw wrong();
    }
    if (t.text.length() > DIGITS) {
      throw new Fault(1, t.place + DIGITS);
    }
    int number = Integer.parseInt(t.text);
    if (number < least || number > most) {
      throw new Fault(2, t.place);
    }
    next++;
    return number;
  }

  // ---- a journal, a question

  private Plan journal() throws Fault {
    Plan plan = new Plan();
    need("journal");
    plan.segments = number(2, 4);
    need("blocks");
    plan.blocks = number(2, 4);
    need("bytes");
    plan.bytes = number(16, 32);
    need(";");
    plan.statements = 1;
    while (token().kind != Kind.END) {
      if (plan.statements == STATEMENTS) {
        throw new Fault(5, token().place);
      }
      statement(plan);
      need(";");
      plan.statements++;
    }
    plan.closes = plan.closes != null ? plan.closes : f -> f.get("records") > 3 || f.get("age") > 4 ? 1 : 0;
    plan.takes = plan.takes != null ? plan.takes : f -> 1 + f.get("payload") / 16;
    return plan;
  }

  private void statement(Plan plan) throws Fault {
    int place = token().place;
    if (took("put")) {
      int key = number(0, 15);
      int value = number(0, 999);
      need("size");
      plan.puts.add(new Put(key, value, number(0, 40)));
    } else if (took("noise")) {
      plan.noise = number(0, 100);
    } else if (took("closes")) {
      once(plan.closes, place);
      facts = List.of("tick", "records", "payload", "age", "waiters");
      plan.closes = test();
    } else if (took("takes")) {
      once(plan.takes, place);
      facts = List.of("tick", "records", "payload");
      plan.takes = sum();
    } else {
      throw wrong();
    }
  }

  private static void once(Node told, int place) throws Fault {
    if (told != null) {
      throw new Fault(5, place);
    }
  }

  private Question question() throws Fault {
    facts = List.of("number", "serial", "first", "frames", "tick");
    ofParts = List.of("octet", "value");
    String asked = token().text;
    if (!List.of("first", "last", "often", "total", "most", "least").contains(asked)) {
      throw wrong();
    }
    next++;
    Node node = List.of("first", "last", "often").contains(asked) ? test() : sum();
    if (token().kind != Kind.END) {
      throw wrong();
    }
    return new Question(asked, node);
  }

  // ---- TESTS

  private void opens(Token t) throws Fault {
    if (open == OPEN) {
      throw new Fault(4, t.place);
    }
    open++;
  }

  private Node test() throws Fault {
    Node node = both();
    while (took("or")) {
      Node left = node;
      Node right = both();
      node = f -> Math.max(left.of(f), right.of(f));
    }
    return node;
  }

  private Node both() throws Fault {
    Node node = fact();
    while (took("and")) {
      Node left = node;
      Node right = fact();
      node = f -> left.of(f) * right.of(f);
    }
    return node;
  }

  private Node fact() throws Fault {
    Token t = token();
    if (took("not")) {
      opens(t);
      Node node = fact();
      open--;
      return f -> 1 - node.of(f);
    }
    if (took("[")) {
      opens(t);
      Node node = test();
      need("]");
      open--;
      return node;
    }
    return took("all") ? f -> 1 : compared();
  }

  private Node compared() throws Fault {
    Node left = sum();
    String sign = token().text;
    if (!List.of("<", ">", "=").contains(sign)) {
      throw wrong();
    }
    next++;
    Node right = sum();
    int wanted = sign.equals("<") ? -1 : sign.equals(">") ? 1 : 0;
    return f -> Long.compare(left.of(f), right.of(f)) == wanted ? 1 : 0;
  }

  // ---- SUMS

  private static long held(long number) {
    return number > LIMIT ? LIMIT : number < -LIMIT ? -LIMIT : number;
  }

  private Node sum() throws Fault {
    Node node = product();
    while (is("+") || is("-")) {
      int sign = took("+") ? 1 : -1;
      next += sign < 0 ? 1 : 0;
      Node left = node;
      Node right = product();
      node = f -> held(left.of(f) + sign * right.of(f));
    }
    return node;
  }

  private Node product() throws Fault {
    Node node = part();
    while (is("*") || is("/")) {
      Node left = node;
      if (took("*")) {
        Node right = part();
        node = f -> held(left.of(f) * right.of(f));
      } else {
        next++;
        Node right = part();
        node = f -> over(left.of(f), right.of(f));
      }
    }
    return node;
  }

  private static long over(long left, long right) {
    return right == 0 ? 0 : (long) Math.floor((double) left / (double) right);
  }

  private Node part() throws Fault {
    Token t = token();
    if (t.kind == Kind.NUMBER) {
      long number = number(0, 9999);
      return f -> number;
    }
    if (took("(")) {
      opens(t);
      Node node = sum();
      need(")");
      open--;
      return node;
    }
    if (t.kind != Kind.WORD) {
      throw wrong();
    }
    if (took("min") || took("max")) {
      return ofPair(t.text.equals("min"));
    }
    if (ofParts.contains(t.text)) {
      next++;
      opens(t);
      Node node = part();
      open--;
      return f -> f.getOrDefault(t.text + node.of(f), 0L);
    }
    if (!facts.contains(t.text)) {
      throw wrong();
    }
    next++;
    return f -> f.get(t.text);
  }

  private Node ofPair(boolean isLeast) throws Fault {
    Token bracket = token();
    need("(");
    opens(bracket);
    Node left = sum();
    need(",");
    Node right = sum();
    need(")");
    open--;
    return f -> isLeast ? Math.min(left.of(f), right.of(f)) : Math.max(left.of(f), right.of(f));
  }
}
