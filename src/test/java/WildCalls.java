import java.util.Random;

/** Runs of 512 calls with fitting and unfitting arguments: each throws just what the document says, and changes nothing then. */
public final class WildCalls {
  private static final int[] EDGES = {
    Integer.MIN_VALUE, Integer.MIN_VALUE + 1, -101, -2, -1, 0, 1, 2, 3, 4, 5, 6, 7, 15, 16, 100, 101, 102, 10200, 10201,
    10202, 1030300, 1030301, Integer.MAX_VALUE
  };
  private static final long[] LONGS = {Long.MIN_VALUE, -103, -2, -1, 0, 1, 2, 3, 100, 101, Long.MAX_VALUE};
  private static final int[] SIZES = {101, 10201, 1030301};
  private static final String STATE = "IllegalStateException";
  private static final String INDEX = "IndexOutOfBoundsException";
  private static final String ARGUMENT = "IllegalArgumentException";

  private static int wrong = 0;
  private static int checks = 0;

  private final NumberFieldFactors x = new NumberFieldFactors();
  private final Random random;

  private WildCalls(int seed) {
    random = new Random(seed);
  }

  public static void main(String[] args) {
    for (int run = 0; run < 400; run++) {
      WildCalls one = new WildCalls(run);
      for (int i = 0; i < 512; i++) {
        one.call();
      }
    }
    System.out.println("WildCalls: " + checks + " checks, " + wrong + " wrong");
    if (wrong != 0) {
      System.exit(1);
    }
  }

  private void call() {
    String before = state();
    int method = random.nextInt(16);
    int a = argument();
    int b = argument();
    int c = argument();
    String due = due(method, a, b, c);
    String got = run(method, a, b, c);
    checks++;
    if (!got.equals(due)) {
      tell(method, a, b, c, "threw " + got + ", due is " + due);
    }
    boolean changes = due.isEmpty() && (method == 0 || method == 2 || method == 14 || method == 15);
    if (!changes && !state().equals(before)) {
      tell(method, a, b, c, "changed " + before + " to " + state());
    }
  }

  private int argument() {
    int kind = random.nextInt(4);
    return kind == 0 ? EDGES[random.nextInt(EDGES.length)] : kind == 1 ? random.nextInt(size()) : random.nextInt(6);
  }

  private long anyLong() {
    return LONGS[random.nextInt(LONGS.length)];
  }

  private int size() {
    return SIZES[x.modulus(3) == 1 ? 2 : x.modulus(2) == 1 ? 1 : 0];
  }

  private boolean isZero() {
    for (int p = 0; p < 6; p++) {
      if (x.at(p) != 0) {
        return false;
      }
    }
    return true;
  }

  private boolean isElement(int a) {
    return a >= 0 && a < size();
  }

  private String due(int method, int a, int b, int c) {
    switch (method) {
      case 0:
        return a < 1 || a > 3 ? ARGUMENT : "";
      case 1:
        return a < 0 || a > 3 ? INDEX : "";
      case 2:
        return a < 0 || a > 5 ? INDEX : isElement(b) ? "" : ARGUMENT;
      case 3:
        return a < 0 || a > 5 ? INDEX : "";
      case 4:
        return a < 0 || a > 3 || !isElement(b) || !isElement(c) ? ARGUMENT : a == 3 && c == 0 ? "ArithmeticException" : "";
      case 5:
        return a < 0 || a > 4 || !isElement(b) ? ARGUMENT : "";
      case 6:
        return b < 0 || b > 3 ? INDEX : isElement(a) ? "" : ARGUMENT;
      case 7:
      case 14:
        return isElement(a) ? "" : ARGUMENT;
      case 8:
        return "";
      case 9:
      case 10:
      case 13:
        return isZero() ? STATE : "";
      case 11:
        return isZero() ? STATE : a < 0 || a >= x.factors() || b < 0 || b > 5 ? INDEX : "";
      default:
        return isZero() ? STATE : a < 0 || a >= x.factors() ? INDEX : "";
    }
  }

  private String run(int method, int a, int b, int c) {
    try {
      switch (method) {
        case 0 -> x.field(a, anyLong(), anyLong(), anyLong());
        case 1 -> x.modulus(a);
        case 2 -> x.put(a, b);
        case 3 -> x.at(a);
        case 4 -> x.reckon(a, b, c);
        case 5 -> x.known(a, b);
        case 6 -> x.minimal(a, b);
        case 7 -> x.value(a);
        case 8 -> x.norm(a);
        case 9 -> x.shift();
        case 10 -> x.factors();
        case 11 -> x.factor(a, b);
        case 12 -> x.often(a);
        case 13 -> x.splitting();
        case 14 -> x.move(a);
        default -> x.take(a);
      }
      return "";
    } catch (RuntimeException e) {
      return e.getClass().getSimpleName();
    }
  }

  private String state() {
    StringBuilder text = new StringBuilder();
    for (int p = 0; p < 4; p++) {
      text.append(x.modulus(p)).append(' ');
    }
    for (int p = 0; p < 6; p++) {
      text.append(x.at(p)).append(' ');
    }
    return text.toString();
  }

  private static void tell(int method, int a, int b, int c, String text) {
    wrong++;
    System.out.println("method " + method + " with " + a + " " + b + " " + c + ": " + text);
  }
}
