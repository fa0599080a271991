import java.lang.reflect.Constructor;
import java.lang.reflect.Field;
import java.lang.reflect.Method;
import java.lang.reflect.Modifier;
import java.util.Arrays;
import java.util.TreeSet;

/** The class shows the document's face, with its exceptions, and nothing else. */
public final class FaceTest {
  private static final String ARGUMENT = "IllegalArgumentException";
  private static final String STATE = "IllegalStateException";
  private static final String POWER = "ArithmeticException";
  private static final String MISSING = "NoSuchElementException";

  public static void main(String[] args) {
    TreeSet<String> due = new TreeSet<>(Arrays.asList(
        line("int", "draft", "int, int, long", ARGUMENT, STATE),
        line("int", "append", "int, int", ARGUMENT, STATE, POWER),
        line("int", "settings", "int, int, int, int", ARGUMENT, STATE, POWER),
        line("int", "end", "int", ARGUMENT, STATE, POWER),
        line("int", "tick", "int", ARGUMENT, STATE, POWER),
        line("int", "read", "int, int, int, boolean", ARGUMENT, STATE),
        line("long", "event", "int, int", MISSING, ARGUMENT, STATE),
        line("int", "group", "int, int, int, int", ARGUMENT, STATE, POWER),
        line("int", "take", "int", MISSING, STATE),
        line("int", "acknowledge", "int, int", MISSING, STATE, POWER),
        line("int", "refuse", "int, int", MISSING, STATE, POWER),
        line("int", "code", "int, int", ARGUMENT, STATE),
        line("int", "projection", "int, int, int, boolean", ARGUMENT, STATE, POWER),
        line("int", "step", "int", MISSING, STATE, POWER),
        line("long", "variable", "int, int, int", MISSING, ARGUMENT, STATE),
        line("int", "scavenge", "", STATE, POWER),
        line("void", "power", "int", ARGUMENT),
        line("int", "reopen", ""),
        line("int", "told", "int", ARGUMENT),
        line("int", "check", "")));
    Due.same("the face", due.toString(), shown().toString());
    Due.is("public and final", Modifier.PUBLIC | Modifier.FINAL, () -> EventVault.class.getModifiers());
    privateElse();
    Due.end();
  }

  private static String line(String answer, String name, String arguments, String... thrown) {
    return answer + " " + name + "(" + arguments + ") " + Arrays.toString(thrown);
  }

  private static TreeSet<String> shown() {
    TreeSet<String> lines = new TreeSet<>();
    for (Method method : EventVault.class.getDeclaredMethods()) {
      if (!Modifier.isPrivate(method.getModifiers())) {
        String[] arguments = names(method.getParameterTypes());
        lines.add(line(method.getReturnType().getName(), method.getName(), String.join(", ", arguments),
            names(method.getExceptionTypes())));
      }
    }
    return lines;
  }

  private static String[] names(Class<?>[] types) {
    return Arrays.stream(types).map(Class::getSimpleName).toArray(String[]::new);
  }

  private static void privateElse() {
    for (Field field : EventVault.class.getDeclaredFields()) {
      Due.is("private " + field.getName(), 1, () -> Modifier.isPrivate(field.getModifiers()) ? 1 : 0);
    }
    Constructor<?>[] constructors = EventVault.class.getDeclaredConstructors();
    Due.is("constructors", 1, () -> constructors.length);
    Due.is("without arguments", 0, () -> constructors[0].getParameterCount());
    Due.is("public", 1, () -> Modifier.isPublic(constructors[0].getModifiers()) ? 1 : 0);
  }
}
