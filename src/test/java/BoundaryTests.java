import java.lang.reflect.InvocationTargetException;
import java.lang.reflect.Method;
import java.nio.file.Files;
import java.nio.file.Path;
import java.util.Arrays;
import java.util.Map;
import java.util.TreeMap;

/**
 * For each sentence of the document that names a boundary case a test of its own. A test's name tells where the
 * sentence stands (about: "What it is", terms: "Terms", promise02_field: "Promise 2: field"); its first line quotes it.
 * No object is used for more than 512 calls.
 */
public final class BoundaryTests {
  private static final String STATE = "IllegalStateException";
  private static final String INDEX = "IndexOutOfBoundsException";
  private static final String ARGUMENT = "IllegalArgumentException";
  private static final String ARITHMETIC = "ArithmeticException";
  private static final int LEAST = Integer.MIN_VALUE;
  private static final int GREATEST = Integer.MAX_VALUE;
  /** How many elements there are, by k. */
  private static final int[] SIZE = {0, 101, 10201, 1030301};
  /** 7 (x - 1)(x - 1)(x x x + x + 1), for each k: one factor twice, and others that k 3 splits. */
  private static final int[] MIXED = {7, 94, 94, 14, 87, 7};
  private static final int[] NONE = {0, 0, 0, 0, 0, 0};

  private static final Map<String, String> quotes = new TreeMap<>();
  private static String test = "";
  private static int checks = 0;
  private static int wrong = 0;

  private interface Call {
    Object on(NumberFieldFactors x);
  }

  /** How an object is brought to a state; the modulus is t, t t - 2 or t t t + t + 1. */
  private record Start(int k, int... f) {
    NumberFieldFactors make() {
      NumberFieldFactors x = new NumberFieldFactors();
      same("field for " + k, k == 1 ? x.field(1, 0, 0, 0) : k == 2 ? x.field(2, -2, 0, 0) : x.field(3, 1, 1, 0), true);
      putAll(x, f);
      return x;
    }
  }

  public static void main(String[] args) throws ReflectiveOperationException, java.io.IOException {
    Map<String, Method> tests = new TreeMap<>();
    for (Method one : BoundaryTests.class.getDeclaredMethods()) {
      if (one.getName().matches("(about|terms|promise\\d\\d)_.*") && !one.isSynthetic()) {
        tests.put(one.getName(), one);
      }
    }
    for (Map.Entry<String, Method> one : tests.entrySet()) {
      test = one.getKey();
      try {
        one.getValue().invoke(null);
      } catch (InvocationTargetException e) {
        tell("the test itself was stopped by " + e.getCause());
      }
      if (!quotes.containsKey(test)) {
        tell("the test quotes no sentence");
      }
    }
    noteWhatIsntQuoted();
    System.out.println("BoundaryTests: " + tests.size() + " tests, " + checks + " checks, " + wrong + " wrong");
    if (wrong != 0) {
      System.exit(1);
    }
  }

  // What it is

  static void about_512CallsAreAnswered() {
    sentence("An object is used for at most 512 calls after it has been made; what later calls answer is free.");
    NumberFieldFactors x = new NumberFieldFactors();
    x.put(5, 1);
    for (int i = 0; i < 510; i++) {
      x.move(1);
    }
    same("call 512, (x + 510) to the 5 at 0", x.at(0), 5 * 5 * 5 * 5 * 5 % 101);
    NumberFieldFactors y = new NumberFieldFactors();
    for (int i = 0; i < 255; i++) {
      y.put(1, 1 + i % 2);
      y.factors();
    }
    y.put(2, 1);
    same("call 512, x x + x", y.factors(), 2);
    NumberFieldFactors z = new NumberFieldFactors();
    for (int i = 0; i < 511; i++) {
      throwsOn("call " + (i + 1), z, INDEX, o -> o.modulus(4));
    }
    same("call 512 behind refused ones", z.modulus(1), 1);
  }

  // Terms

  static void terms_numbersAre0To100() {
    sentence("NUMBERS are modulo 101, 0 .. 100.");
    NumberFieldFactors x = new NumberFieldFactors();
    same("100 and 1", x.reckon(0, 100, 1), 0);
    same("0 less 1", x.reckon(1, 0, 1), 100);
    same("100 times 100", x.reckon(2, 100, 100), 1);
    x.field(1, 100, 0, 0);
    same("100", x.modulus(0), 100);
    x.field(1, 101, 0, 0);
    same("101", x.modulus(0), 0);
    x.field(1, -1, 0, 0);
    same("-1", x.modulus(0), 100);
    x.field(1, -101, 0, 0);
    same("-101", x.modulus(0), 0);
  }

  static void terms_modulusIsNoProduct() {
    sentence("The MODULUS is a polynomial in t, 1 times t to the k and lower powers, k from 1 to 3, that is no"
        + " product of two such of lower degrees");
    int[] good = new int[4];
    NumberFieldFactors x = new NumberFieldFactors();
    for (int i = 0; i < 1030301; i++) {
      x = i % 256 == 0 ? new NumberFieldFactors() : x;
      good[1] += i < 101 && x.field(1, i, 0, 0) ? 1 : 0;
      good[2] += i >= 101 && i < 10302 && x.field(2, (i - 101) % 101, (i - 101) / 101, 0) ? 1 : 0;
      good[3] += x.field(3, i % 101, i / 101 % 101, i / 10201) ? 1 : 0;
    }
    same("each of degree 1 is one", good[1], 101);
    same("of degree 2, half of what isn't t's own", good[2], (10201 - 101) / 2);
    same("of degree 3, a third", good[3], (1030301 - 101) / 3);
  }

  static void terms_modulusIsTAtFirst() {
    sentence("t at first.");
    row("modulus", modulusOf(new NumberFieldFactors()), 0, 1, 0, 0);
  }

  static void terms_elementsAreAsManyAsTheirDigitsTell() {
    sentence("ELEMENTS are sums of NUMBERS times 1, t .. t to the k - 1, written as the sum of these NUMBERS times 1,"
        + " 101, 10201;");
    for (int k = 1; k <= 3; k++) {
      int last = SIZE[k] - 1;
      NumberFieldFactors x = new Start(k).make();
      same("the last one, k " + k, x.put(0, last), true);
      same("it stands there, k " + k, x.at(0), last);
      same("the first one, k " + k, x.put(0, 0), true);
      for (int none : new int[] {SIZE[k], SIZE[k] + 1, -1, LEAST, GREATEST}) {
        refused("element " + none, new Start(k, MIXED), ARGUMENT, o -> o.put(0, none));
      }
      for (int unit = 1; unit < SIZE[k]; unit *= 101) {
        same("a digit has no carry, unit " + unit, x.reckon(0, 100 * unit, unit), 0);
        same("a digit borrows nothing, unit " + unit, x.reckon(1, 0, unit), 100 * unit);
      }
    }
  }

  static void terms_elementsBecomeFewerWithASmallerK() {
    sentence("ELEMENTS are sums of NUMBERS times 1, t .. t to the k - 1, written as the sum of these NUMBERS times 1,"
        + " 101, 10201;");
    NumberFieldFactors x = new Start(3, 0, 0, 1030300).make();
    same("k 2", x.field(2, -2, 0, 0), true);
    throwsOn("10201 with k 2", x, ARGUMENT, o -> o.value(10201));
    same("10200 with k 2", x.value(10200), 0);
    same("k 1", x.field(1, 0, 0, 0), true);
    throwsOn("101 with k 1", x, ARGUMENT, o -> o.value(101));
    same("100 with k 1", x.value(100), 0);
    same("k 3", x.field(3, 1, 1, 0), true);
    same("1030300 with k 3", x.value(1030300), 0);
  }

  static void terms_productsAreWithoutMultiplesOfTheModulus() {
    sentence("products are those without multiples of the MODULUS.");
    same("- 1 twice, k 1", new Start(1).make().reckon(2, 100, 100), 1);
    NumberFieldFactors two = new Start(2).make();
    same("t t is 2", two.reckon(2, 101, 101), 2);
    same("(- 1 - t)(- 1 - t)", two.reckon(2, 10200, 10200), 3 + 2 * 101);
    NumberFieldFactors three = new Start(3).make();
    same("t t, below t t t", three.reckon(2, 101, 101), 10201);
    same("t t t", three.reckon(2, 101, 10201), 100 + 100 * 101);
    same("t t t t", three.reckon(2, 10201, 10201), 100 * 101 + 100 * 10201);
    same("(- 1 - t - t t)(- 1 - t - t t)", three.reckon(2, 1030300, 1030300), 100 + 100 * 101 + 2 * 10201);
    NumberFieldFactors full = new NumberFieldFactors();
    int a = 0;
    while (a < 101 && !full.field(3, a, 100, 100)) {
      a++;
    }
    same("t t t with greatest numbers in the modulus", full.reckon(2, 101, 10201), (101 - a) + 101 + 10201);
    int higher = (101 - a) + 101 * (102 - a) + 2 * 10201;
    same("t t t t with greatest numbers in the modulus", full.reckon(2, 10201, 10201), higher);
  }

  static void terms_eachBut0GoesInto1() {
    sentence("(Each but 0 goes into 1.)");
    int[] step = {0, 1, 1, 101};
    for (int k = 1; k <= 3; k++) {
      NumberFieldFactors x = null;
      int calls = 0;
      for (int a = 1; a < SIZE[k]; a += step[k]) {
        x = calls++ % 200 == 0 ? new Start(k).make() : x;
        same("1 by " + a + " times it, k " + k, x.reckon(2, x.reckon(3, 1, a), a), 1);
      }
      same("the last one, k " + k, x.reckon(2, x.reckon(3, 1, SIZE[k] - 1), SIZE[k] - 1), 1);
    }
  }

  static void terms_matesAreThePowersOf101() {
    sentence("A MATE of an ELEMENT is it to the power of 101, or of 10201, or it itself.");
    for (int k = 1; k <= 3; k++) {
      for (int a : new int[] {0, 1, 100, SIZE[k] / 101, SIZE[k] - 1}) {
        NumberFieldFactors x = new Start(k).make();
        int mate = a;
        for (int i = 0; i < k; i++) {
          int power = 1;
          for (int n = 0; n < 101; n++) {
            power = x.reckon(2, power, mate);
          }
          same("mate of " + mate + ", k " + k, x.known(3, mate), power);
          mate = power;
        }
        same("k steps from " + a + " lead back, k " + k, mate, a);
      }
    }
  }

  static void terms_fHasPowers0To5() {
    sentence("The POLYNOMIAL f in x has ELEMENTS at powers 0 .. 5, all 0 at first.");
    NumberFieldFactors x = new NumberFieldFactors();
    row("at first", polynomialOf(x), NONE);
    for (int power = 0; power <= 5; power++) {
      same("power " + power, x.put(power, power + 1), true);
    }
    row("all powers", polynomialOf(x), 1, 2, 3, 4, 5, 6);
    for (int none : new int[] {-1, 6, 15, 16, LEAST, GREATEST}) {
      refused("power " + none, new Start(1, MIXED), INDEX, o -> o.put(none, 1));
      refused("power " + none, new Start(1, MIXED), INDEX, o -> o.at(none));
    }
  }

  static void terms_aFactorsHighestPowerIsnt0() {
    sentence("FACTORS of f (not 0) are polynomials with 1 at their highest power, that isn't 0, which divide f, and"
        + " are no product of two others such;");
    for (int k = 1; k <= 3; k++) {
      same("1 has none, k " + k, new Start(k, 1).make().factors(), 0);
      same("the last element has none, k " + k, new Start(k, SIZE[k] - 1).make().factors(), 0);
      NumberFieldFactors x = new Start(k, 0, SIZE[k] - 1).make();
      same("the last element times x has one, k " + k, x.factors(), 1);
      row("it has 1 at its highest power, k " + k, factorOf(x, 0), 0, 1, 0, 0, 0, 0);
    }
  }

  static void terms_aFactorIsNoProduct() {
    sentence("FACTORS of f (not 0) are polynomials with 1 at their highest power, that isn't 0, which divide f, and"
        + " are no product of two others such;");
    NumberFieldFactors one = new Start(1, 99, 0, 0, 0, 0, 1).make();
    same("x to the 5, less 2", one.factors(), 1);
    row("is whole", factorOf(one, 0), 99, 0, 0, 0, 0, 1);
    // (x x - 2)(x x - 3), with degrees that a product of degree 4 without roots must have
    NumberFieldFactors two = new Start(1, 6, 0, 96, 0, 1).make();
    same("(x x - 2)(x x - 3)", two.factors(), 2);
    row("x x - 3", factorOf(two, 0), 98, 0, 1, 0, 0, 0);
    row("x x - 2", factorOf(two, 1), 99, 0, 1, 0, 0, 0);
    NumberFieldFactors over = new Start(2, 6, 0, 96, 0, 1).make();
    same("the same, k 2", over.factors(), 4);
  }

  static void terms_headTimesAllFactors() {
    sentence("f is the ELEMENT at its highest power, the HEAD, times all FACTORS, each as often as it stands.");
    for (int k = 1; k <= 3; k++) {
      int last = SIZE[k] - 1;
      int[][] all = {{last}, {0, last}, {last, last}, {last, last, last, last, last, last}, {0, 0, 0, 0, 0, last},
          MIXED, {last, 0, 0, 0, 0, 1}, {1, 0, 0, 0, 0, last}, {0, 100, 0, 0, 0, 1}};
      for (int[] f : all) {
        NumberFieldFactors x = new Start(k, f).make();
        row("all factors of " + Arrays.toString(f) + ", k " + k, productOfFactors(x), Arrays.copyOf(f, 6));
      }
    }
  }

  static void terms_lesserDegreeFirst() {
    sentence("They are in this order: a lesser degree first;");
    // x + 100 is written with greater elements than x x x + x + 1 and x x + 99 are.
    NumberFieldFactors one = new Start(1, 100, 0, 1, 100, 1).make();
    row("x - 1", factorOf(one, 0), 100, 1, 0, 0, 0, 0);
    row("x x x + x + 1", factorOf(one, 1), 1, 1, 0, 1, 0, 0);
    NumberFieldFactors two = new Start(1, 99, 99, 1, 100, 0, 1).make();
    row("x x - 2", factorOf(two, 0), 99, 0, 1, 0, 0, 0);
    row("x x x + x + 1 behind it", factorOf(two, 1), 1, 1, 0, 1, 0, 0);
  }

  static void terms_lesserElementFirst() {
    sentence("then that which has, at the highest power at which they differ, the lesser ELEMENT, as it is written.");
    NumberFieldFactors ends = new Start(1, 0, 100, 1).make();
    row("x + 0 is first", factorOf(ends, 0), 0, 1, 0, 0, 0, 0);
    row("x + 100 is last", factorOf(ends, 1), 100, 1, 0, 0, 0, 0);
    NumberFieldFactors two = fromRoots(2, 100, 10100, 1);
    row("100 is before 101, k 2", rowOf(two.factor(0, 0), two.factor(1, 0), two.factor(2, 0)), 1, 100, 101);
    NumberFieldFactors top = fromRoots(2, 102, 101);
    row("10100 is before 10200, k 2", rowOf(top.factor(0, 0), top.factor(1, 0)), 10100, 10200);
    NumberFieldFactors three = fromRoots(3, 1, 100 * 10201, 102);
    row("100, 10200, 10201, k 3", rowOf(three.factor(0, 0), three.factor(1, 0), three.factor(2, 0)), 100, 10200, 10201);
  }

  static void terms_theHighestPowerThatDiffersCounts() {
    sentence("then that which has, at the highest power at which they differ, the lesser ELEMENT, as it is written.");
    // (x x + x + 25)(x x + 2 x + 3): at power 0 the order would be the other one
    NumberFieldFactors x = new Start(1, 75, 53, 30, 3, 1).make();
    row("x x + x + 25", factorOf(x, 0), 25, 1, 1, 0, 0, 0);
    row("x x + 2 x + 3", factorOf(x, 1), 3, 2, 1, 0, 0, 0);
  }

  static void terms_normHasNumbersAlone() {
    sentence("The NORM of a polynomial is the product of all k of it: with its ELEMENTS, with these to the power of"
        + " 101, with these to the power of 10201 (it has NUMBERS alone).");
    for (int k = 1; k <= 3; k++) {
      int last = SIZE[k] - 1;
      NumberFieldFactors x = new Start(k, last, last / 2, last, 1, last / 3, last).make();
      for (int n : new int[] {0, 1, 2, 50, 99, 100}) {
        int sum = 0;
        for (int power = 5 * k; power >= 0; power--) {
          int number = x.norm(power);
          same("a number at " + power + ", k " + k, number >= 0 && number <= 100, true);
          sum = (sum * n + number) % 101;
        }
        same("with " + n + " in place of x: the product of a value's mates, k " + k, sum, x.known(1, x.value(n)));
      }
    }
  }

  static void terms_rootHasEachFactorOnce() {
    sentence("ROOT is the product of all FACTORS, each once.");
    for (int power = 1; power <= 5; power++) {
      int[] f = new int[6];
      f[power] = 5;
      same("x " + power + " times, k 1", new Start(1, f).make().shift(), 0);
      same("x " + power + " times, k 2", new Start(2, f).make().shift(), 1);
      same("x " + power + " times, k 3", new Start(3, f).make().shift(), 1);
    }
    same("none: ROOT is 1, k 2", new Start(2, 10200).make().shift(), 0);
  }

  static void terms_shiftIsTheLeastFrom0On() {
    sentence("SHIFT is the least s from 0 on, a NUMBER, for which the NORM of ROOT with x less s times t in place of"
        + " x has no square of a polynomial but of NUMBERS as a factor.");
    same("x - t: 0 is one, k 2", fromRoots(2, 101).shift(), 0);
    same("x - t: 0 is one, k 3", fromRoots(3, 101).shift(), 0);
    same("x: 1, k 2", fromRoots(2, 0).shift(), 1);
    same("x + t: 0, though 1 would be none, k 2", fromRoots(2, 10100).shift(), 0);
    same("x and x + t: neither 0 nor 1, k 2", fromRoots(2, 0, 10100).shift(), 2);
    same("x and x - t: 1, and not 100, k 2", fromRoots(2, 0, 101).shift(), 1);
    same("t and - t: 0 and 1 won't do, k 2", fromRoots(2, 101, 10100).shift(), 2);
  }

  static void terms_thereIsAlwaysAShift() {
    sentence("(There is one.)");
    // With t t = 2 the roots - 2 z t leave a square for each s that is a sum of two z: here 0 .. 12.
    same("k 2, each s below 13 leaves a square", fromRoots(2, timesT(0), timesT(99), timesT(95), timesT(91),
        timesT(89)).shift(), 13);
    same("k 3, each s below 9 leaves a square", fromRoots(3, 0, 995083, 949664, 125248, 250496).shift(), 9);
  }

  static void terms_theFirstBehindThrowsIsThrown() {
    sentence("Of several the one that stands first behind \"throws\" is thrown;");
    for (int k = 1; k <= 3; k++) {
      int none = SIZE[k];
      Start some = new Start(k, MIXED);
      Start zero = new Start(k);
      refused("put, power and element", some, INDEX, x -> x.put(6, none));
      refused("put, power and element", some, INDEX, x -> x.put(-1, -1));
      refused("reckon, element and quotient by 0", some, ARGUMENT, x -> x.reckon(3, none, 0));
      refused("reckon, kind and 0", some, ARGUMENT, x -> x.reckon(4, 1, 0));
      refused("reckon, kind and elements", some, ARGUMENT, x -> x.reckon(-1, -1, -1));
      refused("minimal, power and element", some, INDEX, x -> x.minimal(none, 4));
      refused("minimal, power and element", some, INDEX, x -> x.minimal(-1, -1));
      refused("factor, f is 0 and no such factor", zero, STATE, x -> x.factor(-1, 0));
      refused("factor, f is 0 and no such power", zero, STATE, x -> x.factor(0, 6));
      refused("often, f is 0 and no such factor", zero, STATE, x -> x.often(5));
      refused("take, f is 0 and no such factor", zero, STATE, x -> did(() -> x.take(-1)));
    }
  }

  static void terms_nothingChangesThen() {
    sentence("nothing changes.");
    for (int k = 1; k <= 3; k++) {
      int none = SIZE[k];
      Start some = new Start(k, MIXED);
      refused("field", some, ARGUMENT, x -> x.field(4, 1, 0, 0));
      refused("modulus", some, INDEX, x -> x.modulus(4));
      refused("put, power", some, INDEX, x -> x.put(6, 1));
      refused("put, element", some, ARGUMENT, x -> x.put(5, none));
      refused("at", some, INDEX, x -> x.at(6));
      refused("reckon", some, ARGUMENT, x -> x.reckon(0, 0, none));
      refused("reckon, quotient", some, ARITHMETIC, x -> x.reckon(3, 1, 0));
      refused("known", some, ARGUMENT, x -> x.known(5, 0));
      refused("minimal", some, INDEX, x -> x.minimal(0, 4));
      refused("value", some, ARGUMENT, x -> x.value(none));
      refused("factor", some, INDEX, x -> x.factor(5, 0));
      refused("often", some, INDEX, x -> x.often(5));
      refused("move", some, ARGUMENT, x -> did(() -> x.move(none)));
      refused("take", some, INDEX, x -> did(() -> x.take(5)));
      Start zero = new Start(k);
      refused("shift", zero, STATE, NumberFieldFactors::shift);
      refused("factors", zero, STATE, NumberFieldFactors::factors);
      refused("splitting", zero, STATE, NumberFieldFactors::splitting);
      refused("take, f is 0", zero, STATE, x -> did(() -> x.take(0)));
    }
  }

  // Promise 1

  static void promise01_newObject_theModulusIsT() {
    sentence("The MODULUS is t.");
    NumberFieldFactors x = new NumberFieldFactors();
    row("modulus", modulusOf(x), 0, 1, 0, 0);
    same("100 is an element", x.reckon(0, 100, 0), 100);
    throwsOn("101 is none", x, ARGUMENT, o -> o.reckon(0, 101, 0));
    throwsOn("f is 0", x, STATE, NumberFieldFactors::factors);
    same("another object's change isn't seen", new Start(3, MIXED).make().factors() > 0 && x.modulus(3) == 0, true);
  }

  // Promise 2

  static void promise02_field_lowerPowersAreTaken() {
    sentence("The MODULUS becomes t to the k, and c t t, b t, a of lower powers than k");
    NumberFieldFactors x = new NumberFieldFactors();
    same("k 3", x.field(3, 5, 3, 2), true);
    row("t t t + 2 t t + 3 t + 5", modulusOf(x), 5, 3, 2, 1);
    same("k 2", x.field(2, 25, 1, 0), true);
    row("t t + t + 25", modulusOf(x), 25, 1, 1, 0);
    same("k 1", x.field(1, 25, 0, 0), true);
    row("t + 25", modulusOf(x), 25, 1, 0, 0);
  }

  static void promise02_field_othersArentLookedAt() {
    sentence("(those at others aren't looked at;");
    for (long any : new long[] {Long.MIN_VALUE, -1, 1, 100, Long.MAX_VALUE}) {
      NumberFieldFactors x = new NumberFieldFactors();
      same("k 2, c " + any, x.field(2, -2, 0, any), true);
      row("t t - 2", modulusOf(x), 99, 0, 1, 0);
      same("k 2 of a product, c " + any, x.field(2, -4, 0, any), false);
      same("k 1, b and c " + any, x.field(1, 7, any, any), true);
      row("t + 7", modulusOf(x), 7, 1, 0, 0);
    }
  }

  static void promise02_field_modulo101() {
    sentence("modulo 101)");
    for (long any : new long[] {Long.MIN_VALUE, Long.MIN_VALUE + 1, -102, -101, -100, 101, 102, Long.MAX_VALUE}) {
      NumberFieldFactors x = new NumberFieldFactors();
      same("k 1, a " + any, x.field(1, any, 0, 0), true);
      same("a " + any, x.modulus(0), Math.floorMod(any, 101));
    }
    NumberFieldFactors x = new NumberFieldFactors();
    long far = Long.MAX_VALUE / 101 * 101;
    same("k 2, far above", x.field(2, far - 2, far - 101, 0), true);
    row("t t - 2", modulusOf(x), 99, 0, 1, 0);
    same("k 3, far below", x.field(3, 1 - far, 1 - far, -far), true);
    row("t t t + t + 1", modulusOf(x), 1, 1, 0, 1);
    same("k 3, far below, t t t", x.field(3, -far, -far, -far), false);
  }

  static void promise02_field_fBecomes0() {
    sentence("f becomes 0:");
    for (int k = 1; k <= 3; k++) {
      int last = SIZE[k] - 1;
      NumberFieldFactors x = new Start(k, last, last, last, last, last, last).make();
      x.factors();
      same("the same modulus again, k " + k, x.field(k, x.modulus(0), x.modulus(1), x.modulus(2)), true);
      row("f, k " + k, polynomialOf(x), NONE);
      throwsOn("and it has no factors, k " + k, x, STATE, NumberFieldFactors::factors);
      x.put(0, 1);
      same("nor are some left over, k " + k, x.factors(), 0);
    }
  }

  static void promise02_field_falseIfItCantBeOne() {
    sentence("false, and nothing changes, if it can't be one.");
    for (int k = 1; k <= 3; k++) {
      Start some = new Start(k, MIXED);
      unchanged("t t", some, false, x -> x.field(2, 0, 0, 0));
      unchanged("(t - 2)(t + 2)", some, false, x -> x.field(2, -4, 0, 0));
      unchanged("(t - 1)(t - 1)", some, false, x -> x.field(2, 1, -2, 0));
      unchanged("(t - 100)(t - 100)", some, false, x -> x.field(2, 1, 2, 0));
      unchanged("t t t", some, false, x -> x.field(3, 0, 0, 0));
      unchanged("t (t t - 2), one root alone: 0", some, false, x -> x.field(3, 0, -2, 0));
      unchanged("(t - 100)(t t - 2), one root alone: 100", some, false, x -> x.field(3, -2, -2, 1));
      unchanged("(t - 1)(t - 2)(t - 3)", some, false, x -> x.field(3, -6, 11, -6));
    }
    for (int a = 0; a <= 100; a++) {
      same("k 1 is always one, a " + a, new NumberFieldFactors().field(1, a, 0, 0), true);
    }
  }

  static void promise02_field_kIsnt1To3() {
    sentence("IllegalArgumentException: k isn't 1 .. 3.");
    for (int k : new int[] {0, 4, -1, LEAST, GREATEST}) {
      refused("k " + k, new Start(1), ARGUMENT, x -> x.field(k, 1, 1, 0));
      refused("k " + k + ", with what can't be one", new Start(2, MIXED), ARGUMENT, x -> x.field(k, 0, 0, 0));
      refused("k " + k + ", with far numbers", new Start(3, MIXED), ARGUMENT,
          x -> x.field(k, Long.MIN_VALUE, Long.MAX_VALUE, Long.MIN_VALUE));
    }
    same("k 1", new NumberFieldFactors().field(1, 1, 1, 0), true);
    same("k 3", new NumberFieldFactors().field(3, 1, 1, 0), true);
  }

  // Promise 3

  static void promise03_modulus_powers0To3() {
    sentence("The NUMBER at a power of the MODULUS, 0 .. 3.");
    row("k 1, 0 above t", modulusOf(new Start(1).make()), 0, 1, 0, 0);
    row("k 2, 0 above t t", modulusOf(new Start(2).make()), 99, 0, 1, 0);
    row("k 3", modulusOf(new Start(3).make()), 1, 1, 0, 1);
  }

  static void promise03_modulus_anotherPower() {
    sentence("IndexOutOfBoundsException: another power.");
    for (int power : new int[] {-1, 4, 5, 6, LEAST, GREATEST}) {
      for (int k = 1; k <= 3; k++) {
        refused("power " + power, new Start(k, MIXED), INDEX, x -> x.modulus(power));
      }
    }
  }

  // Promise 4

  static void promise04_put_whetherItIsAnother() {
    sentence("The ELEMENT at a power of f: whether it is another one.");
    for (int k = 1; k <= 3; k++) {
      NumberFieldFactors x = new Start(k).make();
      for (int power : new int[] {0, 5}) {
        same("0 where 0 is, power " + power, x.put(power, 0), false);
        same("the last element, power " + power, x.put(power, SIZE[k] - 1), true);
        same("the same again, power " + power, x.put(power, SIZE[k] - 1), false);
        same("it stands there, power " + power, x.at(power), SIZE[k] - 1);
        same("0 again, power " + power, x.put(power, 0), true);
      }
      row("f is 0 again", polynomialOf(x), NONE);
      throwsOn("and has no factors", x, STATE, NumberFieldFactors::factors);
    }
  }

  static void promise04_put_noSuchPower() {
    sentence("IndexOutOfBoundsException: no such power.");
    for (int power : new int[] {-1, 6, 7, 15, 16, LEAST, GREATEST}) {
      refused("power " + power, new Start(1, MIXED), INDEX, x -> x.put(power, 1));
      refused("power " + power + ", 0", new Start(3, MIXED), INDEX, x -> x.put(power, 0));
    }
  }

  static void promise04_put_noSuchElement() {
    sentence("IllegalArgumentException: no such ELEMENT.");
    for (int k = 1; k <= 3; k++) {
      for (int element : noElements(k)) {
        refused("element " + element + " at 0", new Start(k, MIXED), ARGUMENT, x -> x.put(0, element));
        refused("element " + element + " at 5", new Start(k), ARGUMENT, x -> x.put(5, element));
      }
    }
  }

  // Promise 5

  static void promise05_at_thatElement() {
    sentence("That ELEMENT.");
    for (int k = 1; k <= 3; k++) {
      int last = SIZE[k] - 1;
      row("as put, k " + k, polynomialOf(new Start(k, last, 0, 1, last, 0, last).make()), last, 0, 1, last, 0, last);
      row("0 at first, k " + k, polynomialOf(new Start(k).make()), NONE);
      for (int power : new int[] {-1, 6, 7, 15, 16, LEAST, GREATEST}) {
        refused("no such power: " + power, new Start(k, MIXED), INDEX, x -> x.at(power));
      }
    }
  }

  // Promise 6

  static void promise06_reckon_sumAndDifferenceWrapAround() {
    sentence("The sum of two ELEMENTS (kind 0), the difference (1),");
    int[] all = {0, 1, 102, 10303};
    for (int k = 1; k <= 3; k++) {
      int last = SIZE[k] - 1;
      NumberFieldFactors x = new Start(k).make();
      same("the last, and 1 at each power, k " + k, x.reckon(0, last, all[k]), 0);
      same("the last twice, k " + k, x.reckon(0, last, last), last - all[k]);
      same("with 0, k " + k, x.reckon(0, last, 0), last);
      same("0 less the last, k " + k, x.reckon(1, 0, last), all[k]);
      same("0 less 1 at each power, k " + k, x.reckon(1, 0, all[k]), last);
      same("the last less itself, k " + k, x.reckon(1, last, last), 0);
      same("the last less 0, k " + k, x.reckon(1, last, 0), last);
    }
  }

  static void promise06_reckon_productAndQuotient() {
    sentence("the product (2), the quotient (3).");
    for (int k = 1; k <= 3; k++) {
      int last = SIZE[k] - 1;
      NumberFieldFactors x = new Start(k).make();
      same("the last times 0, k " + k, x.reckon(2, last, 0), 0);
      same("0 times the last, k " + k, x.reckon(2, 0, last), 0);
      same("the last times 1, k " + k, x.reckon(2, last, 1), last);
      same("the last times - 1, k " + k, x.reckon(2, last, 100), x.reckon(1, 0, last));
      same("0 by the last, k " + k, x.reckon(3, 0, last), 0);
      same("the last by itself, k " + k, x.reckon(3, last, last), 1);
      same("the last by 1, k " + k, x.reckon(3, last, 1), last);
      same("1 by - 1, k " + k, x.reckon(3, 1, 100), 100);
      same("1 by 2, k " + k, x.reckon(3, 1, 2), 51);
    }
  }

  static void promise06_reckon_noSuchElement() {
    sentence("IllegalArgumentException: no such ELEMENT, another kind.");
    for (int k = 1; k <= 3; k++) {
      for (int none : noElements(k)) {
        for (int kind = 0; kind <= 3; kind++) {
          int one = kind;
          refused("kind " + kind + ", a " + none, new Start(k, MIXED), ARGUMENT, x -> x.reckon(one, none, 1));
          refused("kind " + kind + ", b " + none, new Start(k, MIXED), ARGUMENT, x -> x.reckon(one, 1, none));
        }
      }
    }
  }

  static void promise06_reckon_anotherKind() {
    sentence("IllegalArgumentException: no such ELEMENT, another kind.");
    for (int kind : new int[] {-1, 4, 5, LEAST, GREATEST}) {
      refused("kind " + kind, new Start(2, MIXED), ARGUMENT, x -> x.reckon(kind, 1, 1));
    }
  }

  static void promise06_reckon_quotientBy0() {
    sentence("ArithmeticException: the quotient by 0.");
    for (int k = 1; k <= 3; k++) {
      int last = SIZE[k] - 1;
      refused("1 by 0, k " + k, new Start(k, MIXED), ARITHMETIC, x -> x.reckon(3, 1, 0));
      refused("0 by 0, k " + k, new Start(k, MIXED), ARITHMETIC, x -> x.reckon(3, 0, 0));
      refused("the last by 0, k " + k, new Start(k), ARITHMETIC, x -> x.reckon(3, last, 0));
      NumberFieldFactors x = new Start(k).make();
      row("other kinds with 0, k " + k, rowOf(x.reckon(0, 5, 0), x.reckon(1, 5, 0), x.reckon(2, 5, 0)), 5, 5, 0);
    }
  }

  // Promise 7

  static void promise07_known_square() {
    sentence("Of an ELEMENT what 0: whether it is a square of one (1, or 0);");
    for (int k = 1; k <= 3; k++) {
      NumberFieldFactors x = new Start(k).make();
      same("0 is one, k " + k, x.known(0, 0), 1);
      same("1 is one, k " + k, x.known(0, 1), 1);
      same("2 is one with k 2 alone, k " + k, x.known(0, 2), k == 2 ? 1 : 0);
      same("the last one's square is one, k " + k, x.known(0, x.reckon(2, SIZE[k] - 1, SIZE[k] - 1)), 1);
    }
    same("the last element of k 1, 10 times 10", new Start(1).make().known(0, 100), 1);
    for (int k = 1; k <= 2; k++) {
      int squares = 0;
      NumberFieldFactors x = null;
      for (int a = 0; a < SIZE[k]; a++) {
        x = a % 400 == 0 ? new Start(k).make() : x;
        squares += x.known(0, a);
      }
      same("0 and half of the others, k " + k, squares, (SIZE[k] + 1) / 2);
    }
  }

  static void promise07_known_productOfMates() {
    sentence("1: the product of its k MATES (by 1, 101, 10201);");
    row("k 1", knownOf(1, new Start(1), 0, 1, 7, 100), 0, 1, 7, 100);
    row("k 2: numbers twice, t and - t, the last", knownOf(1, new Start(2), 0, 7, 100, 101, 10200), 0, 49, 1, 99, 100);
    row("k 3: numbers three times, t", knownOf(1, new Start(3), 0, 7, 100, 101), 0, 40, 100, 100);
  }

  static void promise07_known_sumOfMates() {
    sentence("2: their sum;");
    row("k 1", knownOf(2, new Start(1), 0, 1, 7, 100), 0, 1, 7, 100);
    row("k 2: numbers twice, t and - t, the last", knownOf(2, new Start(2), 0, 7, 51, 100, 101, 10200),
        0, 14, 1, 99, 0, 99);
    row("k 3: numbers three times, t, t t, the last", knownOf(2, new Start(3), 0, 34, 100, 101, 10201, 1030300),
        0, 1, 98, 0, 99, 100);
  }

  static void promise07_known_powerOf101() {
    sentence("3: it to the power of 101;");
    row("k 1: itself", knownOf(3, new Start(1), 0, 1, 100), 0, 1, 100);
    row("k 2: t becomes - t", knownOf(3, new Start(2), 0, 100, 101, 10200), 0, 100, 10100, 100 + 101);
    row("k 3: numbers stay", knownOf(3, new Start(3), 0, 1, 100), 0, 1, 100);
    NumberFieldFactors x = new Start(3).make();
    int mate = x.known(3, 1030300);
    same("k 3: the last becomes another", mate != 1030300, true);
    same("k 3: and is itself after three", x.known(3, x.known(3, mate)), 1030300);
  }

  static void promise07_known_differentMates() {
    sentence("4: how many different MATES it has.");
    row("k 1: one", knownOf(4, new Start(1), 0, 1, 100), 1, 1, 1);
    row("k 2: numbers one", knownOf(4, new Start(2), 0, 1, 100, 101, 10100, 10200), 1, 1, 1, 2, 2, 2);
    row("k 3: numbers one", knownOf(4, new Start(3), 0, 1, 100, 101, 10200, 10201, 1030300), 1, 1, 1, 3, 3, 3, 3);
  }

  static void promise07_known_noSuchElement() {
    sentence("IllegalArgumentException: no such ELEMENT, another what.");
    for (int k = 1; k <= 3; k++) {
      for (int none : noElements(k)) {
        for (int what = 0; what <= 4; what++) {
          int one = what;
          refused("what " + what + ", a " + none, new Start(k, MIXED), ARGUMENT, x -> x.known(one, none));
        }
      }
    }
  }

  static void promise07_known_anotherWhat() {
    sentence("IllegalArgumentException: no such ELEMENT, another what.");
    for (int what : new int[] {-1, 5, 6, LEAST, GREATEST}) {
      refused("what " + what, new Start(3, MIXED), ARGUMENT, x -> x.known(what, 0));
    }
  }

  // Promise 8

  static void promise08_minimal_powers0To3() {
    sentence("The NUMBER at a power, 0 .. 3, of an ELEMENT's LEAST polynomial: the product of x less each of its"
        + " different MATES.");
    for (int k = 1; k <= 3; k++) {
      row("of 0, k " + k, minimalOf(new Start(k).make(), 0), 0, 1, 0, 0);
      row("of 1, k " + k, minimalOf(new Start(k).make(), 1), 100, 1, 0, 0);
      row("of 100, each mate once, k " + k, minimalOf(new Start(k).make(), 100), 1, 1, 0, 0);
    }
    row("of t, k 2", minimalOf(new Start(2).make(), 101), 99, 0, 1, 0);
    row("of the last, k 2: x x + 2 x - 1", minimalOf(new Start(2).make(), 10200), 100, 2, 1, 0);
    row("of t, k 3", minimalOf(new Start(3).make(), 101), 1, 1, 0, 1);
    int[] last = minimalOf(new Start(3).make(), 1030300);
    same("of the last, k 3: 1 at its highest power", last[3], 1);
    same("of the last, k 3: at 2 less the mates' sum", last[2], 1);
    same("of the last, k 3: it is 0 there", new Start(3, last).make().value(1030300), 0);
  }

  static void promise08_minimal_anotherPower() {
    sentence("IndexOutOfBoundsException: another power.");
    for (int k = 1; k <= 3; k++) {
      for (int power : new int[] {-1, 4, 5, LEAST, GREATEST}) {
        refused("power " + power, new Start(k, MIXED), INDEX, x -> x.minimal(1, power));
      }
    }
  }

  static void promise08_minimal_noSuchElement() {
    sentence("IllegalArgumentException: no such ELEMENT.");
    for (int k = 1; k <= 3; k++) {
      for (int none : noElements(k)) {
        refused("a " + none + " at 0", new Start(k, MIXED), ARGUMENT, x -> x.minimal(none, 0));
        refused("a " + none + " at 3", new Start(k, MIXED), ARGUMENT, x -> x.minimal(none, 3));
      }
    }
  }

  // Promise 9

  static void promise09_value_inPlaceOfX() {
    sentence("f with an ELEMENT in place of x.");
    for (int k = 1; k <= 3; k++) {
      int last = SIZE[k] - 1;
      same("f is 0, k " + k, new Start(k).make().value(last), 0);
      same("one element alone, k " + k, new Start(k, last).make().value(last), last);
      same("at 0, k " + k, new Start(k, last, 1, 2, 3, 4, 5).make().value(0), last);
      same("x at the last, k " + k, new Start(k, 0, 1).make().value(last), last);
      NumberFieldFactors x = new Start(k, 0, 0, 0, 0, 0, 1).make();
      int square = x.reckon(2, last, last);
      same("x to the 5 at the last, k " + k, x.value(last), x.reckon(2, last, x.reckon(2, square, square)));
      same("at 1, the sum, k " + k, new Start(k, 100, 1, last, 0, 0, 5).make().value(1), x.reckon(0, last, 5));
    }
    same("t t - 2 is 0", new Start(2, 99, 0, 1).make().value(101), 0);
    same("t t t + t + 1 is 0", new Start(3, 1, 1, 0, 1).make().value(101), 0);
  }

  static void promise09_value_noSuchElement() {
    sentence("IllegalArgumentException: no such ELEMENT.");
    for (int k = 1; k <= 3; k++) {
      for (int none : noElements(k)) {
        refused("a " + none, new Start(k, MIXED), ARGUMENT, x -> x.value(none));
        refused("a " + none + ", f is 0", new Start(k), ARGUMENT, x -> x.value(none));
      }
    }
  }

  // Promise 10

  static void promise10_norm_atThePowersThatItHas() {
    sentence("The NUMBER at a power of the NORM of f;");
    for (int k = 1; k <= 3; k++) {
      int last = SIZE[k] - 1;
      NumberFieldFactors x = new Start(k, last, 1, 2, 3, 4, SIZE[k] / 101).make();
      same("the lowest, k " + k, x.norm(0), x.known(1, last));
      same("the highest, k " + k, x.norm(5 * k), x.known(1, SIZE[k] / 101));
      same("behind the highest, k " + k, x.norm(5 * k + 1), 0);
      NumberFieldFactors alone = new Start(k, last).make();
      same("of one element, k " + k, alone.norm(0), alone.known(1, last));
      same("of one element at 1, k " + k, alone.norm(1), 0);
    }
    row("of x - t, k 2", normOf(fromRoots(2, 101)), 99, 0, 1);
    row("of x - t, k 3", normOf(fromRoots(3, 101)), 1, 1, 0, 1);
  }

  static void promise10_norm_0ForPowersThatItDoesntHave() {
    sentence("0 for powers that it doesn't have.");
    for (int k = 1; k <= 3; k++) {
      int last = SIZE[k] - 1;
      Start full = new Start(k, last, last, last, last, last, last);
      for (int power : new int[] {LEAST, LEAST + 1, -16, -1, 5 * k + 1, 16, 17, 32, GREATEST}) {
        unchanged("power " + power + ", k " + k, full, 0, x -> x.norm(power));
      }
      for (int power : new int[] {LEAST, -1, 0, 1, 15, 16, GREATEST}) {
        unchanged("f is 0, power " + power + ", k " + k, new Start(k), 0, x -> x.norm(power));
      }
    }
  }

  // Promise 11

  static void promise11_shift_ofWhatHasNoSquares() {
    sentence("SHIFT.");
    for (int k = 1; k <= 3; k++) {
      unchanged("an element alone, k " + k, new Start(k, SIZE[k] - 1), 0, NumberFieldFactors::shift);
    }
    unchanged("k 1: always 0", new Start(1, MIXED), 0, NumberFieldFactors::shift);
    unchanged("k 1, x to the 5", new Start(1, 0, 0, 0, 0, 0, 1), 0, NumberFieldFactors::shift);
    unchanged("k 2, x x - 2", new Start(2, 99, 0, 1), 2, NumberFieldFactors::shift);
    NumberFieldFactors other = new NumberFieldFactors();
    other.field(1, 5, 0, 0);
    other.put(3, 1);
    same("k 1 with t + 5", other.shift(), 0);
  }

  static void promise11_shift_fIs0() {
    sentence("IllegalStateException: f is 0.");
    zeroIsRefused(NumberFieldFactors::shift);
  }

  // Promise 12

  static void promise12_factors_noneToFive() {
    sentence("How many different FACTORS f has.");
    for (int k = 1; k <= 3; k++) {
      unchanged("none, k " + k, new Start(k, SIZE[k] - 1), 0, NumberFieldFactors::factors);
      unchanged("one, k " + k, new Start(k, SIZE[k] - 1, 1), 1, NumberFieldFactors::factors);
      unchanged("one five times, k " + k, new Start(k, 0, 0, 0, 0, 0, 1), 1, NumberFieldFactors::factors);
      unchanged("five, k " + k, new Start(k, 0, 100, 0, 0, 0, 1), 5, NumberFieldFactors::factors);
      unchanged("x to the 5, less 2: whole, k " + k, new Start(k, 99, 0, 0, 0, 0, 1), 1, NumberFieldFactors::factors);
    }
  }

  static void promise12_factors_fIs0() {
    sentence("IllegalStateException: f is 0.");
    zeroIsRefused(NumberFieldFactors::factors);
  }

  // Promise 13

  static void promise13_factor_powers0To5() {
    sentence("The ELEMENT at a power, 0 .. 5, of a FACTOR.");
    for (int k = 1; k <= 3; k++) {
      NumberFieldFactors whole = new Start(k, 99, 0, 0, 0, 0, 1).make();
      row("up to power 5, k " + k, factorOf(whole, 0), 99, 0, 0, 0, 0, 1);
      NumberFieldFactors five = new Start(k, 0, 100, 0, 0, 0, 1).make();
      row("0 above its degree, the first, k " + k, factorOf(five, 0), 0, 1, 0, 0, 0, 0);
      row("0 above its degree, the last, k " + k, factorOf(five, 4), 100, 1, 0, 0, 0, 0);
    }
  }

  static void promise13_factor_noSuchFactor() {
    sentence("IndexOutOfBoundsException: no such FACTOR, power.");
    for (int k = 1; k <= 3; k++) {
      Start five = new Start(k, 0, 100, 0, 0, 0, 1);
      for (int none : new int[] {-1, 5, 6, LEAST, GREATEST}) {
        refused("factor " + none + " of five", five, INDEX, x -> x.factor(none, 0));
      }
      refused("factor 1 of one that stands five times", new Start(k, 0, 0, 0, 0, 0, 1), INDEX, x -> x.factor(1, 0));
      refused("factor 0 of none", new Start(k, 1), INDEX, x -> x.factor(0, 0));
      NumberFieldFactors fewer = five.make();
      fewer.factors();
      fewer.put(5, 0);
      throwsOn("factor 1 of x, where five were", fewer, INDEX, x -> x.factor(1, 0));
    }
  }

  static void promise13_factor_noSuchPower() {
    sentence("IndexOutOfBoundsException: no such FACTOR, power.");
    for (int k = 1; k <= 3; k++) {
      for (int none : new int[] {-1, 6, 15, 16, LEAST, GREATEST}) {
        refused("power " + none, new Start(k, MIXED), INDEX, x -> x.factor(0, none));
        refused("power " + none + ", and no such factor", new Start(k, MIXED), INDEX, x -> x.factor(9, none));
        refused("power " + none + ", and no factors", new Start(k, 1), INDEX, x -> x.factor(0, none));
      }
    }
  }

  static void promise13_factor_fIs0() {
    sentence("throws IllegalStateException, IndexOutOfBoundsException");
    zeroIsRefused(x -> x.factor(0, 0));
    zeroIsRefused(x -> x.factor(5, 6));
  }

  // Promise 14

  static void promise14_often_onceToFiveTimes() {
    sentence("How often a FACTOR stands.");
    for (int k = 1; k <= 3; k++) {
      for (int n = 1; n <= 5; n++) {
        int[] f = new int[6];
        f[n] = SIZE[k] - 1;
        unchanged("x " + n + " times, k " + k, new Start(k, f), n, x -> x.often(0));
      }
      unchanged("the last of five, k " + k, new Start(k, 0, 100, 0, 0, 0, 1), 1, x -> x.often(4));
      unchanged("x - 1 twice, k " + k, new Start(k, MIXED), 2, x -> x.often(0));
    }
    // (x x - 2)(x x - 2) x
    unchanged("x once", new Start(1, 0, 4, 0, 97, 0, 1), 1, x -> x.often(0));
    unchanged("x x - 2 twice", new Start(1, 0, 4, 0, 97, 0, 1), 2, x -> x.often(1));
  }

  static void promise14_often_noSuchFactor() {
    sentence("IndexOutOfBoundsException: no such FACTOR.");
    for (int k = 1; k <= 3; k++) {
      for (int none : new int[] {-1, 5, 6, LEAST, GREATEST}) {
        refused("factor " + none + " of five", new Start(k, 0, 100, 0, 0, 0, 1), INDEX, x -> x.often(none));
      }
      refused("factor 1 of one that stands five times", new Start(k, 0, 0, 0, 0, 0, 1), INDEX, x -> x.often(1));
      refused("factor 0 of none", new Start(k, 1), INDEX, x -> x.often(0));
    }
  }

  static void promise14_often_fIs0() {
    sentence("throws IllegalStateException, IndexOutOfBoundsException");
    zeroIsRefused(x -> x.often(0));
    zeroIsRefused(x -> x.often(-1));
  }

  // Promise 15

  static void promise15_splitting_leastThatAllDegreesGoInto() {
    sentence("The degree of the least extension of the ELEMENTS in which f splits into linear factors: what all"
        + " FACTORS' degrees go into, the least such number.");
    for (int k = 1; k <= 3; k++) {
      unchanged("no factors, k " + k, new Start(k, SIZE[k] - 1), 1, NumberFieldFactors::splitting);
      unchanged("x five times, k " + k, new Start(k, 0, 0, 0, 0, 0, 1), 1, NumberFieldFactors::splitting);
      unchanged("x to the 5, less 2, k " + k, new Start(k, 99, 0, 0, 0, 0, 1), 5, NumberFieldFactors::splitting);
      // (x x - 2)(x x x + x + 1): k 2 splits the one, k 3 the other
      unchanged("degrees 2 and 3 of k 1, k " + k, new Start(k, 99, 99, 1, 100, 0, 1), k == 1 ? 6 : 5 - k,
          NumberFieldFactors::splitting);
      unchanged("degree 4 of k 1, k " + k, new Start(k, 99, 0, 0, 0, 1), k == 2 ? 2 : 4, NumberFieldFactors::splitting);
      unchanged("degrees 2, 2 of k 1, k " + k, new Start(k, 6, 0, 96, 0, 1), k == 2 ? 1 : 2,
          NumberFieldFactors::splitting);
    }
  }

  static void promise15_splitting_fIs0() {
    sentence("IllegalStateException: f is 0.");
    zeroIsRefused(NumberFieldFactors::splitting);
  }

  // Promise 16

  static void promise16_move_xAndAnElement() {
    sentence("f becomes f with x and an ELEMENT in place of x.");
    for (int k = 1; k <= 3; k++) {
      int last = SIZE[k] - 1;
      unchanged("by 0, k " + k, new Start(k, MIXED), 0, x -> did(() -> x.move(0)));
      unchanged("f is 0, k " + k, new Start(k), 0, x -> did(() -> x.move(last)));
      unchanged("one element alone, k " + k, new Start(k, last), 0, x -> did(() -> x.move(last)));
      unchanged("by 1 a hundred and one times, k " + k, new Start(k, MIXED), 0, x -> did(() -> {
        for (int i = 0; i < 101; i++) {
          x.move(1);
        }
      }));
      unchanged("by the last and back, k " + k, new Start(k, MIXED), 0, x -> did(() -> {
        x.move(last);
        x.move(x.reckon(1, 0, last));
      }));
      NumberFieldFactors x = new Start(k, 0, last).make();
      x.factors();
      x.move(last);
      row("the last times x, by the last, k " + k, polynomialOf(x), x.reckon(2, last, last), last, 0, 0, 0, 0);
      row("its factor, k " + k, factorOf(x, 0), last, 1, 0, 0, 0, 0);
      NumberFieldFactors y = new Start(k, 0, 0, 0, 0, 0, 1).make();
      y.move(100);
      row("x to the 5, by 100, k " + k, polynomialOf(y), 100, 5, 91, 10, 96, 1);
    }
  }

  static void promise16_move_noSuchElement() {
    sentence("IllegalArgumentException: no such ELEMENT.");
    for (int k = 1; k <= 3; k++) {
      for (int none : noElements(k)) {
        refused("a " + none, new Start(k, MIXED), ARGUMENT, x -> did(() -> x.move(none)));
        refused("a " + none + ", f is 0", new Start(k), ARGUMENT, x -> did(() -> x.move(none)));
      }
    }
  }

  // Promise 17

  static void promise17_take_itsFactor() {
    sentence("f becomes its FACTOR k.");
    for (int k = 1; k <= 3; k++) {
      NumberFieldFactors five = new Start(k, 0, 100, 0, 0, 0, 1).make();
      five.take(4);
      row("the last of five, k " + k, polynomialOf(five), 100, 1, 0, 0, 0, 0);
      same("has one, k " + k, five.factors(), 1);
      NumberFieldFactors first = new Start(k, 0, 100, 0, 0, 0, 1).make();
      first.take(0);
      row("the first of five, k " + k, polynomialOf(first), 0, 1, 0, 0, 0, 0);
      NumberFieldFactors often = new Start(k, 0, 0, 0, 0, 0, SIZE[k] - 1).make();
      often.take(0);
      row("without the head, once, k " + k, polynomialOf(often), 0, 1, 0, 0, 0, 0);
      same("it stands once, k " + k, often.often(0), 1);
      unchanged("of what is its only factor, k " + k, new Start(k, 99, 0, 0, 0, 0, 1), 0, x -> did(() -> x.take(0)));
      same("the modulus stays, k " + k, often.modulus(k), 1);
    }
  }

  static void promise17_take_noSuchFactor() {
    sentence("IndexOutOfBoundsException: no such FACTOR.");
    for (int k = 1; k <= 3; k++) {
      for (int none : new int[] {-1, 5, 6, LEAST, GREATEST}) {
        refused("factor " + none + " of five", new Start(k, 0, 100, 0, 0, 0, 1), INDEX, x -> did(() -> x.take(none)));
      }
      refused("factor 1 of one that stands five times", new Start(k, 0, 0, 0, 0, 0, 1), INDEX,
          x -> did(() -> x.take(1)));
      refused("factor 0 of none", new Start(k, 1), INDEX, x -> did(() -> x.take(0)));
    }
  }

  static void promise17_take_fIs0() {
    sentence("throws IllegalStateException, IndexOutOfBoundsException");
    zeroIsRefused(x -> did(() -> x.take(0)));
    zeroIsRefused(x -> did(() -> x.take(GREATEST)));
  }

  // What the tests are made of

  private static void sentence(String quote) {
    quotes.put(test, quote);
  }

  /** Notes alone, so that a new wording of the document doesn't refuse the class. */
  private static void noteWhatIsntQuoted() throws java.io.IOException {
    Path document = Path.of("..", "shared", "DOC.md");
    if (!Files.exists(document)) {
      System.out.println("note: no document to look the sentences up in");
      return;
    }
    for (String section : Files.readString(document).split("(?m)^## ")) {
      String title = section.lines().findFirst().orElse("");
      String start = title.equals("What it is") ? "about_" : title.equals("Terms") ? "terms_" : "";
      if (title.startsWith("Promise ")) {
        int number = Integer.parseInt(title.substring(8, title.indexOf(':')));
        start = String.format("promise%02d_", number);
      }
      boolean any = false;
      for (Map.Entry<String, String> one : quotes.entrySet()) {
        if (!start.isEmpty() && one.getKey().startsWith(start)) {
          any = true;
          if (!section.contains(one.getValue())) {
            System.out.println("note: " + one.getKey() + " quotes what isn't in \"" + title + "\"");
          }
        }
      }
      if (!start.isEmpty() && !any) {
        System.out.println("note: no test quotes \"" + title + "\"");
      }
    }
  }

  private static int[] noElements(int k) {
    return new int[] {-1, SIZE[k], SIZE[k] + 1, LEAST, GREATEST};
  }

  private static int timesT(int number) {
    return 101 * number;
  }

  private static int[] rowOf(int... row) {
    return row;
  }

  private static Object did(Runnable deed) {
    deed.run();
    return 0;
  }

  private static void putAll(NumberFieldFactors x, int... f) {
    for (int i = 0; i < f.length; i++) {
      x.put(i, f[i]);
    }
  }

  /** The product of x less each of these roots. */
  private static NumberFieldFactors fromRoots(int k, int... roots) {
    NumberFieldFactors x = new Start(k).make();
    int[] f = {1, 0, 0, 0, 0, 0};
    for (int root : roots) {
      f = timesFactor(x, f, new int[] {x.reckon(1, 0, root), 1});
    }
    return new Start(k, f).make();
  }

  private static int[] timesFactor(NumberFieldFactors x, int[] f, int[] factor) {
    int[] result = new int[6];
    for (int i = 0; i < 6; i++) {
      for (int j = 0; j < factor.length && i + j < 6; j++) {
        if (f[i] != 0 && factor[j] != 0) {
          result[i + j] = x.reckon(0, result[i + j], x.reckon(2, f[i], factor[j]));
        }
      }
    }
    return result;
  }

  private static int[] productOfFactors(NumberFieldFactors x) {
    int[] f = polynomialOf(x);
    int degree = 5;
    while (degree > 0 && f[degree] == 0) {
      degree--;
    }
    int[] all = {f[degree], 0, 0, 0, 0, 0};
    int count = x.factors();
    for (int i = 0; i < count; i++) {
      int[] factor = factorOf(x, i);
      for (int n = x.often(i); n > 0; n--) {
        all = timesFactor(x, all, factor);
      }
    }
    return all;
  }

  private static int[] modulusOf(NumberFieldFactors x) {
    return new int[] {x.modulus(0), x.modulus(1), x.modulus(2), x.modulus(3)};
  }

  private static int[] polynomialOf(NumberFieldFactors x) {
    return new int[] {x.at(0), x.at(1), x.at(2), x.at(3), x.at(4), x.at(5)};
  }

  private static int[] minimalOf(NumberFieldFactors x, int a) {
    return new int[] {x.minimal(a, 0), x.minimal(a, 1), x.minimal(a, 2), x.minimal(a, 3)};
  }

  private static int[] factorOf(NumberFieldFactors x, int k) {
    int[] row = new int[6];
    for (int i = 0; i < row.length; i++) {
      row[i] = x.factor(k, i);
    }
    return row;
  }

  /** Without the zeros behind its highest power. */
  private static int[] normOf(NumberFieldFactors x) {
    int[] row = new int[20];
    int length = 0;
    for (int i = 0; i < row.length; i++) {
      row[i] = x.norm(i);
      length = row[i] != 0 ? i + 1 : length;
    }
    return Arrays.copyOf(row, length);
  }

  private static int[] knownOf(int what, Start start, int... elements) {
    NumberFieldFactors x = start.make();
    int[] row = new int[elements.length];
    for (int i = 0; i < row.length; i++) {
      row[i] = x.known(what, elements[i]);
    }
    return row;
  }

  /** All that can be asked of an object, but for sums and products that follow from its modulus. */
  private static String stateOf(NumberFieldFactors x) {
    StringBuilder text = new StringBuilder();
    int[] f = polynomialOf(x);
    text.append(Arrays.toString(modulusOf(x))).append(Arrays.toString(f)).append(Arrays.toString(normOf(x)));
    text.append(x.known(3, 100)).append(' ').append(x.value(1));
    if (!Arrays.equals(f, NONE)) {
      int count = x.factors();
      for (int i = 0; i < count; i++) {
        text.append(' ').append(x.often(i)).append(Arrays.toString(factorOf(x, i)));
      }
      text.append(' ').append(x.splitting()).append(' ').append(x.shift());
    }
    return text.toString();
  }

  private static void zeroIsRefused(Call call) {
    for (int k = 1; k <= 3; k++) {
      refused("f is 0, k " + k, new Start(k), STATE, call);
      refused("f is 0 again, k " + k, new Start(k, 0, 0, 0, 0, 0, 0), STATE, x -> {
        x.put(5, SIZE[1] - 1);
        x.factors();
        x.put(5, 0);
        return call.on(x);
      });
    }
    throwsOn("f is 0, a new object", new NumberFieldFactors(), STATE, call);
  }

  /** The call throws this, and the object is then as one that had no such call; once with factors asked for before. */
  private static void refused(String what, Start start, String due, Call call) {
    String before = stateOf(start.make());
    NumberFieldFactors x = start.make();
    throwsOn(what, x, due, call);
    same(what + ": the state behind it", stateOf(x), before);
    NumberFieldFactors asked = start.make();
    stateOf(asked);
    throwsOn(what + ", asked before", asked, due, call);
    same(what + ": the state behind it, asked before", stateOf(asked), before);
  }

  /** The call answers this, and the object is then as one that had no such call. */
  private static void unchanged(String what, Start start, Object due, Call call) {
    String before = stateOf(start.make());
    NumberFieldFactors x = start.make();
    same(what, call.on(x), due);
    same(what + ": the state behind it", stateOf(x), before);
    same(what + ", once more", call.on(x), due);
    same(what + ": the state behind it, once more", stateOf(x), before);
  }

  private static void throwsOn(String what, NumberFieldFactors x, String due, Call call) {
    checks++;
    try {
      tell(what + " answered " + call.on(x) + ", due is " + due);
    } catch (RuntimeException e) {
      if (!e.getClass().getSimpleName().equals(due)) {
        tell(what + " threw " + e.getClass().getSimpleName() + ", due is " + due);
      }
    }
  }

  private static void same(String what, Object got, Object due) {
    checks++;
    if (!got.equals(due)) {
      tell(what + " answered " + got + ", due is " + due);
    }
  }

  private static void row(String what, int[] got, int... due) {
    same(what, Arrays.toString(got), Arrays.toString(due));
  }

  private static void tell(String text) {
    wrong++;
    System.out.println(test + " (\"" + quotes.getOrDefault(test, "") + "\"): " + text);
  }
}
