import java.io.File;
import java.io.IOException;
import java.lang.reflect.InvocationTargetException;
import java.lang.reflect.Method;
import java.nio.file.Files;
import java.nio.file.Path;
import java.util.List;
import java.util.Set;
import java.util.TreeSet;
import java.util.regex.Matcher;
import java.util.regex.Pattern;

/** README.md's session answers as it says there, with every call of the face; README.md names every test. */
public final class ReadmeTest {
  private static final Pattern CALL = Pattern.compile("x\\.(\\w+)\\(([^)]*)\\);\\s*// (throws \\w+|[^\\s:]+).*");

  private static int wrong = 0;
  private static int checks = 0;
  private static NumberFieldFactors x = null;

  public static void main(String[] args) throws IOException, IllegalAccessException {
    List<String> lines = Files.readAllLines(Path.of("README.md"));
    Set<String> called = runSession(lines);
    Set<String> face = new TreeSet<>();
    for (Method one : NumberFieldFactors.class.getMethods()) {
      if (one.getDeclaringClass() == NumberFieldFactors.class) {
        face.add(one.getName());
      }
    }
    due("the calls that the session has", called.toString(), face.toString());
    checkNames(lines);
    System.out.println("ReadmeTest: " + checks + " checks, " + wrong + " wrong");
    if (wrong != 0) {
      System.exit(1);
    }
  }

  private static Set<String> runSession(List<String> lines) throws IllegalAccessException {
    Set<String> called = new TreeSet<>();
    boolean inside = false;
    for (String line : lines) {
      if (line.startsWith("```")) {
        inside = line.equals("```java");
      } else if (inside && line.equals("NumberFieldFactors x = new NumberFieldFactors();")) {
        x = new NumberFieldFactors();
      } else if (inside && !line.isEmpty()) {
        Matcher call = CALL.matcher(line);
        due("a call and its answer: " + line, call.matches() && x != null ? "yes" : "no", "yes");
        if (call.matches() && x != null) {
          called.add(call.group(1));
          runCall(line, methodOf(call.group(1)), call.group(2), call.group(3));
        }
      }
    }
    return called;
  }

  private static Method methodOf(String name) {
    for (Method one : NumberFieldFactors.class.getMethods()) {
      if (one.getName().equals(name)) {
        return one;
      }
    }
    return null;
  }

  private static void runCall(String line, Method method, String written, String want) throws IllegalAccessException {
    String[] texts = written.isEmpty() ? new String[0] : written.split(", ");
    if (method == null || method.getParameterCount() != texts.length) {
      due(line, "no such call", want);
      return;
    }
    Object[] values = new Object[texts.length];
    for (int i = 0; i < texts.length; i++) {
      // Not with ?: , which would make a long of both.
      if (method.getParameterTypes()[i] == long.class) {
        values[i] = Long.valueOf(texts[i]);
      } else {
        values[i] = Integer.valueOf(texts[i]);
      }
    }
    String got;
    try {
      got = String.valueOf(method.invoke(x, values));
    } catch (InvocationTargetException e) {
      got = "throws " + e.getCause().getClass().getSimpleName();
    }
    // What a call without an answer does is told in words; the lines behind it look at it.
    boolean silent = method.getReturnType() == void.class && got.equals("null");
    due(line, silent ? "nothing" : got, silent ? "nothing" : want);
  }

  private static void checkNames(List<String> lines) {
    Set<String> there = new TreeSet<>();
    File[] files = new File("src/test/java").listFiles();
    for (File one : files == null ? new File[0] : files) {
      there.add(one.getName().replace(".java", ""));
    }
    Set<String> named = new TreeSet<>();
    for (String line : lines) {
      Matcher name = Pattern.compile("- `(\\w+)`: [^`]*").matcher(line);
      if (name.matches()) {
        named.add(name.group(1));
      }
    }
    due("the tests that it names", named.toString(), there.toString());
  }

  private static void due(String what, String got, String want) {
    checks++;
    if (!got.equals(want)) {
      wrong++;
      System.out.println(what + " answered " + got + ", due is " + want);
    }
  }
}
