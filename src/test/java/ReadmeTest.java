import java.io.ByteArrayOutputStream;
import java.io.IOException;
import java.io.PrintStream;
import java.lang.reflect.Method;
import java.lang.reflect.Modifier;
import java.net.URL;
import java.net.URLClassLoader;
import java.nio.file.Files;
import java.nio.file.Path;
import java.util.ArrayList;
import java.util.List;
import java.util.regex.Matcher;
import java.util.regex.Pattern;
import javax.tools.ToolProvider;

/** README.md: its example prints what stands behind each of its calls, and it tells every call and constant. */
public final class ReadmeTest {
  private static final Pattern EXAMPLE = Pattern.compile("```java\n(.*?)```", Pattern.DOTALL);
  private static final Pattern PRINTED = Pattern.compile("System\\.out\\.println\\((.*)\\); *// (-?\\w+)");

  public static void main(String[] args) throws IOException, ReflectiveOperationException {
    Trial t = new Trial("README.md");
    String readme = Files.readString(Path.of("README.md"));
    calls(t, readme);
    Matcher example = EXAMPLE.matcher(readme);
    t.holds("it has an example", example.find());
    runs(t, example.group(1));
    Trial.close();
  }

  private static void calls(Trial t, String readme) {
    for (Method method : GroupJournal.class.getDeclaredMethods()) {
      if (Modifier.isPublic(method.getModifiers())) {
        int commas = Math.max(0, method.getParameterCount() - 1);
        String call = "\\| `" + method.getName() + "\\(" + "\\w+, ".repeat(commas)
            + (method.getParameterCount() > 0 ? "\\w+" : "") + "\\)` \\|";
        t.holds("it tells " + method.getName(), Pattern.compile(call).matcher(readme).find());
      }
    }
    t.holds("it tells NONE", readme.contains("| `NONE` | " + GroupJournal.NONE + " |"));
    t.holds("it tells NOTHING", readme.contains("| `NOTHING` | " + GroupJournal.NOTHING + " |"));
    t.holds("it tells the constructor", readme.contains("`new GroupJournal()`"));
  }

  private static void runs(Trial t, String example) throws IOException, ReflectiveOperationException {
    List<String> calls = new ArrayList<>();
    List<String> wanted = new ArrayList<>();
    Matcher printed = PRINTED.matcher(example);
    while (printed.find()) {
      calls.add(printed.group(1));
      wanted.add(printed.group(2));
    }
    List<String> got = output(t, example).lines().toList();
    t.due("how many lines it prints", got.size(), wanted.size());
    for (int i = 0; i < Math.min(got.size(), wanted.size()); i++) {
      t.holds(calls.get(i) + " is told as " + wanted.get(i) + " and prints " + got.get(i),
          got.get(i).equals(wanted.get(i)));
    }
  }

  private static String output(Trial t, String example) throws IOException, ReflectiveOperationException {
    Path directory = Files.createTempDirectory("readme");
    Path source = Files.writeString(directory.resolve("Example.java"), example);
    int failed = ToolProvider.getSystemJavaCompiler().run(null, null, null, "-cp", System.getProperty("java.class.path"),
        "-d", directory.toString(), source.toString());
    t.due("javac of the example", failed, 0);
    ByteArrayOutputStream bytes = new ByteArrayOutputStream();
    PrintStream out = System.out;
    try (URLClassLoader loader = new URLClassLoader(new URL[] {directory.toUri().toURL()})) {
      Method main = loader.loadClass("Example").getMethod("main", String[].class);
      System.setOut(new PrintStream(bytes, true));
      main.invoke(null, (Object) new String[0]);
    } finally {
      System.setOut(out);
      Files.deleteIfExists(directory.resolve("Example.class"));
      Files.delete(source);
      Files.delete(directory);
    }
    return bytes.toString();
  }
}
