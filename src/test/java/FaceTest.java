import java.io.IOException;
import java.lang.reflect.Constructor;
import java.lang.reflect.Field;
import java.lang.reflect.Method;
import java.lang.reflect.Modifier;
import java.nio.file.Files;
import java.nio.file.Path;
import java.util.Set;
import java.util.TreeSet;
import java.util.regex.Matcher;
import java.util.regex.Pattern;

/** The face of the document and, as far as a look at the file and the class tells it, the rules of LANGUAGE.md. */
public final class FaceTest {
  private static final String FACE = "append(int,int,int)int arrived(int)int ask()long best(int)int chance(int)int "
      + "crash(int)int end(int)boolean fault(int)int feed(int,int,int,int,int)int flip(int,int)int flips(int)int "
      + "frame(int,int,int)int giveUp()int has(int)int image()int journal()int kept(int,int)int later(int,int)int "
      + "octet(int)int octetOf(int,int)int on()boolean place(int)int recovers(int,int)int room(int)int rule(int,int)int "
      + "see()int seed(int)boolean segment(int,int)int snap()int soon(int)int status(int)int tells(int)int ticks(int)int "
      + "undo()boolean value(int)int waiter(int)int waiting(int,int)int waits(int,int)boolean when(int)int";

  public static void main(String[] args) throws IOException {
    Trial t = new Trial("the face");
    face(t);
    parts(t);
    words(t);
    Trial.close();
  }

  private static void face(Trial t) {
    Set<String> found = new TreeSet<>();
    Set<String> names = new TreeSet<>();
    for (Method method : GroupJournal.class.getDeclaredMethods()) {
      boolean isPublic = Modifier.isPublic(method.getModifiers());
      t.holds(method + " is public or private", isPublic || Modifier.isPrivate(method.getModifiers()));
      if (isPublic) {
        found.add(told(method));
        names.add(method.getName());
      }
    }
    t.holds("the methods are " + found, found.equals(new TreeSet<>(Set.of(FACE.split(" ")))));
    for (Field field : GroupJournal.class.getDeclaredFields()) {
      boolean isConstant = field.getName().equals("NONE") || field.getName().equals("NOTHING");
      t.holds(field + " is as it should be", Modifier.isPublic(field.getModifiers()) == isConstant
          && Modifier.isPrivate(field.getModifiers()) != isConstant);
    }
    Constructor<?>[] constructors = GroupJournal.class.getDeclaredConstructors();
    t.holds("one public constructor", constructors.length == 1 && Modifier.isPublic(constructors[0].getModifiers()));
    t.holds("final", Modifier.isFinal(GroupJournal.class.getModifiers()));
    for (Class<?> part : GroupJournal.class.getDeclaredClasses()) {
      for (Method method : part.getDeclaredMethods()) {
        t.holds(method + " bears no public name", !names.contains(method.getName()));
      }
    }
  }

  private static String told(Method method) {
    StringBuilder told = new StringBuilder(method.getName()).append('(');
    for (Class<?> type : method.getParameterTypes()) {
      told.append(told.charAt(told.length() - 1) == '(' ? "" : ",").append(type);
    }
    return told.append(')').append(method.getReturnType()).toString();
  }

  private static void parts(Trial t) {
    Class<?>[] parts = GroupJournal.class.getDeclaredClasses();
    t.holds(parts.length + 1 + " classes", parts.length + 1 <= 12);
    for (Class<?> part : parts) {
      t.holds(part + " is static", Modifier.isStatic(part.getModifiers()));
      limits(t, part);
    }
    limits(t, GroupJournal.class);
  }

  private static void limits(Trial t, Class<?> part) {
    int fields = 0;
    for (Field field : part.getDeclaredFields()) {
      boolean isStatic = Modifier.isStatic(field.getModifiers());
      t.holds(field + " is final, if it is static", !isStatic || Modifier.isFinal(field.getModifiers()));
      fields += isStatic ? 0 : 1;
    }
    t.holds(part + " has " + fields + " fields", fields <= 20);
    for (Method method : part.getDeclaredMethods()) {
      t.holds(method + " takes seven at most", method.getParameterCount() <= 7);
    }
  }

  /** Words and signs that the rules leave no place for. */
  private static void words(Trial t) throws IOException {
    String source = Files.readString(Path.of("src/main/java/GroupJournal.java"));
    String code = source.replaceAll("(?s)/\\*.*?\\*/", "").replaceAll("//[^\n]*", "");
    Matcher words = Pattern.compile("\\b(throw|try|catch|synchronized|assert|package|protected|float|double)\\b|->|::|@")
        .matcher(code);
    t.holds("none of these: " + (words.find() ? words.group() : ""), !words.reset().find());
    Matcher imports = Pattern.compile("import ([\\w.]+);").matcher(code);
    while (imports.find()) {
      t.holds("import " + imports.group(1), imports.group(1).equals("java.util.Arrays"));
    }
    for (char sign : source.toCharArray()) {
      if (sign > 126) {
        t.holds("no sign " + (int) sign, false);
      }
    }
  }
}
