import java.io.IOException;
import java.lang.reflect.Method;
import java.lang.reflect.Modifier;
import java.nio.file.Files;
import java.nio.file.Path;
import java.util.ArrayList;
import java.util.List;
import java.util.TreeSet;
import java.util.regex.Matcher;
import java.util.regex.Pattern;
import javax.tools.ToolProvider;

/** README.md tells of every call what it throws, and its examples answer what stands behind them. */
public final class ReadmeTest {
  private static final String EXAMPLES = "ReadmeExamples";
  private static final Pattern ANSWERED =
      Pattern.compile(" *(int (\\w+) = )?(vault\\.\\w+\\(.*\\)); +// (-?\\d+)(:.*)?");
  private static final Pattern THROWN = Pattern.compile("\\w+Exception");

  public static void main(String[] args) throws Exception {
    List<String> lines = Files.readAllLines(Path.of("README.md"));
    for (Method method : EventVault.class.getDeclaredMethods()) {
      if (Modifier.isPublic(method.getModifiers())) {
        tellsOf(method, lines);
      }
    }
    examplesAnswer(lines);
    Due.end();
  }

  private static void tellsOf(Method method, List<String> lines) {
    String name = method.getName();
    String told = entryOf(name, lines);
    Due.is("arguments that README.md gives to " + name, method.getParameterCount(), () -> countArguments(told));
    TreeSet<String> due = new TreeSet<>();
    for (Class<?> thrown : method.getExceptionTypes()) {
      due.add(thrown.getSimpleName());
    }
    TreeSet<String> got = new TreeSet<>();
    THROWN.matcher(told).results().forEach(found -> got.add(found.group()));
    Due.same("what README.md lets be thrown by " + name, due.toString(), got.toString());
  }

  /** From the item's sign on up to the next item, heading or empty line. */
  private static String entryOf(String name, List<String> lines) {
    StringBuilder entry = new StringBuilder();
    for (String line : lines) {
      boolean begins = line.startsWith("- `" + name + "(");
      if (begins || entry.length() > 0 && line.startsWith("  ")) {
        entry.append(line).append('\n');
      } else if (entry.length() > 0) {
        break;
      }
    }
    return entry.toString();
  }

  private static int countArguments(String entry) {
    Matcher head = Pattern.compile("- `\\w+\\((.*?)\\)`: ").matcher(entry);
    if (!head.lookingAt()) {
      return -1;
    }
    return head.group(1).isEmpty() ? 0 : head.group(1).split(", ").length;
  }

  /** The examples are compiled as they stand, into the folder that the tests run from, and each is a method there. */
  private static void examplesAnswer(List<String> lines) throws Exception {
    List<String> source = examples(lines);
    Path folder = Path.of(System.getProperty("java.class.path"));
    Path written = Files.write(folder.resolve(EXAMPLES + ".java"), source);
    int failed = ToolProvider.getSystemJavaCompiler().run(null, null, null,
        "-cp", folder.toString(), "-d", folder.toString(), written.toString());
    Due.is("errors in the examples", 0, () -> failed);
    if (failed == 0) {
      Class.forName(EXAMPLES).getMethod("run").invoke(null);
    }
  }

  private static List<String> examples(List<String> lines) throws IOException {
    List<String> source = new ArrayList<>();
    source.add("public final class " + EXAMPLES + " { public static void run() {");
    boolean inside = false;
    for (int i = 0; i < lines.size(); i++) {
      if (lines.get(i).equals("```java")) {
        inside = true;
        source.add("{");
      } else if (inside && lines.get(i).equals("```")) {
        inside = false;
        source.add("}");
      } else if (inside) {
        source.add(withDue(lines.get(i), i + 1));
      }
    }
    source.add("} }");
    return source;
  }

  private static String withDue(String line, int number) {
    Matcher answered = ANSWERED.matcher(line);
    if (!answered.matches()) {
      return line;
    }
    String declared = answered.group(1) == null ? "" : answered.group(1) + answered.group(3) + "; ";
    String got = answered.group(1) == null ? answered.group(3) : answered.group(2);
    String what = "\"README.md, line " + number + "\"";
    return declared + "Due.same(" + what + ", \"" + answered.group(4) + "\", \"\" + " + got + ");";
  }
}
