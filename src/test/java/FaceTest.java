import java.lang.reflect.Constructor;
import java.lang.reflect.Field;
import java.lang.reflect.Method;
import java.lang.reflect.Modifier;
import java.util.Arrays;
import java.util.Set;
import java.util.TreeSet;

/** The class shows the document's face and nothing else. */
public final class FaceTest {
  private static final String[] FACE = {
    "boolean field(int, long, long, long) IllegalArgumentException",
    "int modulus(int) IndexOutOfBoundsException",
    "boolean put(int, int) IndexOutOfBoundsException IllegalArgumentException",
    "int at(int) IndexOutOfBoundsException",
    "int reckon(int, int, int) IllegalArgumentException ArithmeticException",
    "int known(int, int) IllegalArgumentException",
    "int minimal(int, int) IndexOutOfBoundsException IllegalArgumentException",
    "int value(int) IllegalArgumentException",
    "int norm(int)",
    "int shift() IllegalStateException",
    "int factors() IllegalStateException",
    "int factor(int, int) IllegalStateException IndexOutOfBoundsException",
    "int often(int) IllegalStateException IndexOutOfBoundsException",
    "int splitting() IllegalStateException",
    "void move(int) IllegalArgumentException",
    "void take(int) IllegalStateException IndexOutOfBoundsException"
  };

  public static void main(String[] args) {
    Set<String> found = new TreeSet<>();
    Class<?> face = NumberFieldFactors.class;
    found.add("class " + Modifier.toString(face.getModifiers()));
    for (Constructor<?> one : face.getDeclaredConstructors()) {
      found.add("constructor " + Modifier.toString(one.getModifiers()) + " " + one.getParameterCount());
    }
    for (Field one : face.getDeclaredFields()) {
      if (!Modifier.isPrivate(one.getModifiers())) {
        found.add("field " + one.getName());
      }
    }
    for (Method one : face.getDeclaredMethods()) {
      if (!Modifier.isPrivate(one.getModifiers())) {
        found.add(Modifier.toString(one.getModifiers()) + " " + textOf(one));
      }
    }
    Set<String> due = new TreeSet<>(Arrays.asList("class public final", "constructor public 0"));
    for (String one : FACE) {
      due.add("public " + one);
    }
    System.out.println("FaceTest: " + (found.equals(due) ? "as due" : "found " + found + ", due is " + due));
    if (!found.equals(due)) {
      System.exit(1);
    }
  }

  private static String textOf(Method one) {
    StringBuilder text = new StringBuilder(one.getReturnType().getSimpleName());
    text.append(' ').append(one.getName()).append('(');
    String gap = "";
    for (Class<?> parameter : one.getParameterTypes()) {
      text.append(gap).append(parameter.getSimpleName());
      gap = ", ";
    }
    text.append(')');
    for (Class<?> thrown : one.getExceptionTypes()) {
      text.append(' ').append(thrown.getSimpleName());
    }
    return text.toString();
  }
}
