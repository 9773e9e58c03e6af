import java.util.Arrays;

/** For each promise of the document: ordinary inputs, the edges that it names, wrong inputs. */
public final class PromiseTests {
  private static final int[] ANY = {Integer.MIN_VALUE, -1, Integer.MAX_VALUE};
  private static final String STATE = "IllegalStateException";
  private static final String INDEX = "IndexOutOfBoundsException";
  private static final String ARGUMENT = "IllegalArgumentException";
  private static final String ARITHMETIC = "ArithmeticException";

  private static int wrong = 0;
  private static int checks = 0;
  private static String promise = "";

  private interface Call {
    long run();
  }

  private interface Deed {
    void run();
  }

  public static void main(String[] args) {
    newObject();
    field();
    fieldIsIrreducible();
    modulus();
    put();
    at();
    reckon();
    known();
    minimal();
    value();
    norm();
    shift();
    factors();
    factor();
    often();
    splitting();
    move();
    take();
    answersAfterChanges();
    thrownCallsChangeNothing();
    System.out.println("PromiseTests: " + checks + " checks, " + wrong + " wrong");
    if (wrong != 0) {
      System.exit(1);
    }
  }

  // Promise 1
  private static void newObject() {
    promise = "1 a new object";
    NumberFieldFactors x = new NumberFieldFactors();
    row("modulus", modulusOf(x), 0, 1, 0, 0);
    row("f", polynomialOf(x), 0, 0, 0, 0, 0, 0);
    same("elements are numbers", x.put(0, 100) ? 1 : 0, 1);
    thrown("101 is no element", ARGUMENT, () -> did(() -> x.put(0, 101)));
    NumberFieldFactors other = new NumberFieldFactors();
    row("another object has its own f", polynomialOf(other), 0, 0, 0, 0, 0, 0);
  }

  // Promise 2
  private static void field() {
    promise = "2 field";
    NumberFieldFactors x = new NumberFieldFactors();
    x.put(3, 7);
    same("t t - 4 is (t - 2)(t + 2)", x.field(2, -4, 0, 0) ? 1 : 0, 0);
    row("modulus stays", modulusOf(x), 0, 1, 0, 0);
    row("f stays", polynomialOf(x), 0, 0, 0, 7, 0, 0);
    same("t t - 2", x.field(2, -2, 0, 0) ? 1 : 0, 1);
    row("modulus", modulusOf(x), 99, 0, 1, 0);
    row("f is 0", polynomialOf(x), 0, 0, 0, 0, 0, 0);
    x.put(1, 10200);
    same("the same once more", x.field(2, 99, 101, 5) ? 1 : 0, 1);
    row("f is 0 again", polynomialOf(x), 0, 0, 0, 0, 0, 0);
    row("c isn't looked at for k 2", modulusOf(x), 99, 0, 1, 0);
    same("k 3", x.field(3, 1, 1, 0) ? 1 : 0, 1);
    row("modulus of degree 3", modulusOf(x), 1, 1, 0, 1);
    same("k 3, t t t is a product", x.field(3, 0, 0, 0) ? 1 : 0, 0);
    same("k 3, one root alone", x.field(3, 99, 99, 1) ? 1 : 0, 0);
    row("modulus of degree 3 stays", modulusOf(x), 1, 1, 0, 1);
    same("k 1 is always one", x.field(1, 0, 1, 1) ? 1 : 0, 1);
    row("b and c aren't looked at for k 1", modulusOf(x), 0, 1, 0, 0);
    same("least long", x.field(1, Long.MIN_VALUE, Long.MIN_VALUE, Long.MIN_VALUE) ? 1 : 0, 1);
    same("least long modulo 101", x.modulus(0), Math.floorMod(Long.MIN_VALUE, 101));
    same("greatest long", x.field(1, Long.MAX_VALUE, 0, 0) ? 1 : 0, 1);
    same("greatest long modulo 101", x.modulus(0), Math.floorMod(Long.MAX_VALUE, 101));
    x.field(1, 5, 0, 0);
    x.put(2, 9);
    for (int k : new int[] {0, 4, -1, Integer.MIN_VALUE, Integer.MAX_VALUE}) {
      thrown("k " + k, ARGUMENT, () -> did(() -> x.field(k, 1, 1, 0)));
    }
    row("wrong k leaves the modulus", modulusOf(x), 5, 1, 0, 0);
    row("wrong k leaves f", polynomialOf(x), 0, 0, 9, 0, 0, 0);
  }

  /** Every modulus of degree 2, and many of degree 3, against a search for roots. */
  private static void fieldIsIrreducible() {
    promise = "2 field, all moduli";
    NumberFieldFactors x = new NumberFieldFactors();
    int good = 0;
    for (int a = 0; a < 101; a++) {
      for (int b = 0; b < 101; b++) {
        same("2 " + a + " " + b, x.field(2, a, b - 101, 1) ? 1 : 0, hasRoot(a, b, 1, 0) ? 0 : 1);
        good += hasRoot(a, b, 1, 0) ? 0 : 1;
        int c = (a * 7 + b * 3) % 101;
        same("3 " + a + " " + b + " " + c, x.field(3, a + 101L, b, c - 202L) ? 1 : 0, hasRoot(a, b, c, 1) ? 0 : 1);
      }
    }
    same("irreducible ones of degree 2", good, 101 * 100 / 2);
  }

  private static boolean hasRoot(int a, int b, int c, int d) {
    for (int t = 0; t < 101; t++) {
      if ((a + b * t + c * t * t + d * t * t * t) % 101 == 0) {
        return true;
      }
    }
    return false;
  }

  // Promise 3
  private static void modulus() {
    promise = "3 modulus";
    NumberFieldFactors x = new NumberFieldFactors();
    x.field(3, 5, 3, 2);
    row("t t t + 2 t t + 3 t + 5", modulusOf(x), 5, 3, 2, 1);
    x.field(2, -2, 0, 0);
    row("t t - 2", modulusOf(x), 99, 0, 1, 0);
    x.field(1, -1, 0, 0);
    row("t - 1", modulusOf(x), 100, 1, 0, 0);
    for (int power : new int[] {-1, 4, 5, Integer.MIN_VALUE, Integer.MAX_VALUE}) {
      thrown("power " + power, INDEX, () -> x.modulus(power));
    }
  }

  // Promise 4
  private static void put() {
    promise = "4 put";
    NumberFieldFactors x = new NumberFieldFactors();
    same("0 again", x.put(0, 0) ? 1 : 0, 0);
    same("5 is another", x.put(5, 5) ? 1 : 0, 1);
    same("5 is the same", x.put(5, 5) ? 1 : 0, 0);
    same("0 is another", x.put(5, 0) ? 1 : 0, 1);
    thrown("power before element", INDEX, () -> did(() -> x.put(6, -1)));
    thrown("power -1", INDEX, () -> did(() -> x.put(-1, 0)));
    int[] sizes = {101, 10201, 1030301};
    for (int k = 1; k <= 3; k++) {
      become(x, k);
      int size = sizes[k - 1];
      same("the last element", x.put(0, size - 1) ? 1 : 0, 1);
      thrown("behind the last element", ARGUMENT, () -> did(() -> x.put(0, size)));
      same("still there", x.at(0), size - 1);
      for (int any : ANY) {
        thrown("element " + any, ARGUMENT, () -> did(() -> x.put(0, any)));
        thrown("power " + any, INDEX, () -> did(() -> x.put(any, 0)));
      }
    }
  }

  // Promise 5
  private static void at() {
    promise = "5 at";
    NumberFieldFactors x = new NumberFieldFactors();
    become(x, 3);
    int[] f = {1030300, 0, 5, 101, 10201, 7};
    putAll(x, f);
    row("all powers", polynomialOf(x), f);
    for (int power : new int[] {-1, 6, 7, 15, 16, Integer.MIN_VALUE, Integer.MAX_VALUE}) {
      thrown("power " + power, INDEX, () -> x.at(power));
    }
  }

  // Promise 6
  private static void reckon() {
    promise = "6 reckon";
    NumberFieldFactors x = new NumberFieldFactors();
    same("100 + 2", x.reckon(0, 100, 2), 1);
    same("3 - 5", x.reckon(1, 3, 5), 99);
    same("20 * 20", x.reckon(2, 20, 20), 400 % 101);
    same("1 / 2", x.reckon(3, 1, 2), 51);
    same("0 / 7", x.reckon(3, 0, 7), 0);
    x.field(2, -2, 0, 0);
    same("100 + t", x.reckon(0, 100, 101), 201);
    same("each digit for itself", x.reckon(0, 10200, 102), 0);
    same("0 - (1 + t)", x.reckon(1, 0, 102), 10200);
    same("t t is 2", x.reckon(2, 101, 101), 2);
    same("1 / t is t / 2", x.reckon(3, 1, 101), 5151);
    x.field(3, 1, 1, 0);
    same("t times t", x.reckon(2, 101, 101), 10201);
    same("t t t is - t - 1", x.reckon(2, 101, 10201), 100 + 100 * 101);
    same("t t t t is - t t - t", x.reckon(2, 10201, 10201), 100 * 101 + 100 * 10201);
    same("1 / t is - t t - 1", x.reckon(3, 1, 101), 100 + 100 * 10201);
    same("last + 1 + t + t t", x.reckon(0, 1030300, 10303), 0);
    for (int b = 1; b < 1030301; b += 997) {
      same("a quotient times " + b, x.reckon(2, x.reckon(3, 12345, b), b), 12345);
      same("a difference and " + b, x.reckon(0, x.reckon(1, 12345, b), b), 12345);
    }
    thrown("quotient by 0", ARITHMETIC, () -> x.reckon(3, 1, 0));
    thrown("0 by 0", ARITHMETIC, () -> x.reckon(3, 0, 0));
    thrown("no element before quotient by 0", ARGUMENT, () -> x.reckon(3, 1030301, 0));
    thrown("no kind before quotient by 0", ARGUMENT, () -> x.reckon(4, 1, 0));
    thrown("kind -1", ARGUMENT, () -> x.reckon(-1, 1, 1));
    for (int any : ANY) {
      thrown("kind " + any, ARGUMENT, () -> x.reckon(any, 1, 1));
      for (int kind = 0; kind < 4; kind++) {
        int one = kind;
        thrown("a " + any, ARGUMENT, () -> x.reckon(one, any, 1));
        thrown("b " + any, ARGUMENT, () -> x.reckon(one, 1, any));
      }
    }
  }

  // Promise 7
  private static void known() {
    promise = "7 known";
    NumberFieldFactors x = new NumberFieldFactors();
    int squares = 0;
    for (int a = 0; a < 101; a++) {
      squares += x.known(0, a);
    }
    same("squares of numbers, with 0", squares, 51);
    same("2 is none", x.known(0, 2), 0);
    same("0 is one", x.known(0, 0), 1);
    same("product, k 1", x.known(1, 7), 7);
    same("sum, k 1", x.known(2, 7), 7);
    same("power, k 1", x.known(3, 7), 7);
    same("mates, k 1", x.known(4, 7), 1);
    x.field(2, -2, 0, 0);
    same("each number is a square, k 2", x.known(0, 2), 1);
    same("t is none", x.known(0, 101), 0);
    same("0 is one, k 2", x.known(0, 0), 1);
    same("product of t and - t", x.known(1, 101), 99);
    same("product of a number's k mates", x.known(1, 7), 49);
    same("sum of a number's k mates", x.known(2, 7), 14);
    same("t's mate", x.known(3, 101), 10100);
    same("sum of 3 + t and 3 - t", x.known(2, 104), 6);
    same("mates of t", x.known(4, 101), 2);
    same("mates of 0", x.known(4, 0), 1);
    x.field(3, 1, 1, 0);
    same("2 is none, k 3", x.known(0, 2), 0);
    same("product of t's mates is less the modulus at 0", x.known(1, 101), 100);
    same("sum of t's mates is less the modulus at 2", x.known(2, 101), 0);
    same("sum of the mates of t t", x.known(2, 10201), 99);
    same("product of a number's three mates", x.known(1, 2), 8);
    same("sum of a number's three mates", x.known(2, 50), 49);
    same("three mates", x.known(4, 101), 3);
    same("one mate", x.known(4, 100), 1);
    int mate = x.known(3, 54321);
    same("mates are three steps round", x.known(3, x.known(3, mate)), 54321);
    thrown("what 5", ARGUMENT, () -> x.known(5, 0));
    thrown("behind the last", ARGUMENT, () -> x.known(0, 1030301));
    for (int any : ANY) {
      thrown("what " + any, ARGUMENT, () -> x.known(any, 0));
      for (int what = 0; what < 5; what++) {
        int one = what;
        thrown("a " + any, ARGUMENT, () -> x.known(one, any));
      }
    }
  }

  // Promise 8
  private static void minimal() {
    promise = "8 minimal";
    NumberFieldFactors x = new NumberFieldFactors();
    row("x - 7", minimalOf(x, 7), 94, 1, 0, 0);
    row("x", minimalOf(x, 0), 0, 1, 0, 0);
    x.field(2, -2, 0, 0);
    row("of t", minimalOf(x, 101), 99, 0, 1, 0);
    row("of 3 + t: x x - 6 x + 7", minimalOf(x, 104), 7, 95, 1, 0);
    row("of a number, k 2", minimalOf(x, 7), 94, 1, 0, 0);
    x.field(3, 1, 1, 0);
    row("of t, k 3", minimalOf(x, 101), 1, 1, 0, 1);
    row("of t t: x x x + 2 x x + x - 1", minimalOf(x, 10201), 100, 1, 2, 1);
    row("of 0, k 3", minimalOf(x, 0), 0, 1, 0, 0);
    thrown("power before element", INDEX, () -> x.minimal(-1, 4));
    thrown("power -1", INDEX, () -> x.minimal(0, -1));
    thrown("behind the last", ARGUMENT, () -> x.minimal(1030301, 0));
    for (int any : ANY) {
      thrown("power " + any, INDEX, () -> x.minimal(0, any));
      thrown("a " + any, ARGUMENT, () -> x.minimal(any, 3));
    }
  }

  // Promise 9
  private static void value() {
    promise = "9 value";
    NumberFieldFactors x = new NumberFieldFactors();
    same("0", x.value(5), 0);
    putAll(x, 3, 2, 0, 0, 0, 1);
    same("2 to the 5 + 4 + 3", x.value(2), 39);
    same("at 0", x.value(0), 3);
    same("at 100", x.value(100), 0);
    x.field(2, -2, 0, 0);
    putAll(x, 5, 101, 1, 0, 0, 0);
    same("t t + t t + 5", x.value(101), 9);
    thrown("behind the last", ARGUMENT, () -> x.value(10201));
    for (int any : ANY) {
      thrown("a " + any, ARGUMENT, () -> x.value(any));
    }
  }

  // Promise 10
  private static void norm() {
    promise = "10 norm";
    NumberFieldFactors x = new NumberFieldFactors();
    row("0", normOf(x));
    putAll(x, 1, 2, 3, 4, 5, 6);
    row("k 1: f itself", normOf(x), 1, 2, 3, 4, 5, 6);
    x.field(2, -2, 0, 0);
    row("0, k 2", normOf(x));
    putAll(x, 10100, 1, 0, 0, 0, 0);
    row("x - t: x x - 2", normOf(x), 99, 0, 1);
    putAll(x, 101, 0, 0, 0, 0, 0);
    row("t", normOf(x), 99);
    putAll(x, 7, 0, 0, 0, 0, 1);
    row("of numbers: the square", normOf(x), 49, 0, 0, 0, 0, 14, 0, 0, 0, 0, 1);
    x.field(3, 1, 1, 0);
    putAll(x, 10100, 1, 0, 0, 0, 0);
    row("x - t: the modulus", normOf(x), 1, 1, 0, 1);
    putAll(x, 7, 0, 0, 0, 3, 1);
    row("of numbers: the cube", normOf(x), 40, 0, 0, 0, 37, 46, 0, 0, 88, 25, 21, 0, 27, 27, 9, 1);
    for (int any : new int[] {Integer.MIN_VALUE, -1, 16, 17, Integer.MAX_VALUE}) {
      same("power " + any, x.norm(any), 0);
    }
    row("f stays", polynomialOf(x), 7, 0, 0, 0, 3, 1);
  }

  // Promise 11
  private static void shift() {
    promise = "11 shift";
    NumberFieldFactors x = new NumberFieldFactors();
    thrown("0", STATE, x::shift);
    x.put(2, 1);
    same("k 1", x.shift(), 0);
    x.field(2, -2, 0, 0);
    thrown("0, k 2", STATE, x::shift);
    x.put(0, 101);
    same("no factors", x.shift(), 0);
    putAll(x, 10100, 1, 0, 0, 0, 0);
    same("x - t", x.shift(), 0);
    putAll(x, 0, 1, 0, 0, 0, 0);
    same("x", x.shift(), 1);
    putAll(x, 99, 0, 1, 0, 0, 0);
    same("x x - 2: 0 and 1 leave a square", x.shift(), 2);
    putAll(x, 0, 101, 1, 0, 0, 0);
    same("roots 0 and - t, moved by s t: 0 and 1 leave 0 as a root twice", x.shift(), 2);
    putAll(x, 0, 10100, 1, 0, 0, 0);
    same("roots 0 and t", x.shift(), 1);
    // (x - t)(x + t)(x - 2 t)(x + 2 t) = x x x x - 10 x x + 16: s won't do if two of s + 1, s - 1, s + 2, s - 2 are
    // alike but for the sign.
    putAll(x, 16, 0, 91, 0, 1, 0);
    same("t, - t, 2 t, - 2 t", x.shift(), 3);
    putAll(x, 0, 16, 0, 91, 0, 1);
    same("0, t, - t, 2 t, - 2 t", x.shift(), 3);
    row("f stays", polynomialOf(x), 0, 16, 0, 91, 0, 1);
    putAll(x, 0, 0, 0, 5, 0, 0);
    same("5 x x x: of ROOT, not of f", x.shift(), 1);
  }

  // Promise 12
  private static void factors() {
    promise = "12 factors";
    NumberFieldFactors x = new NumberFieldFactors();
    thrown("0", STATE, x::factors);
    x.put(0, 9);
    same("a number has none", x.factors(), 0);
    x.put(5, 100);
    same("9 - x to the 5", x.factors(), 1 + 4 * isPower(9, 5));
    putAll(x, 99, 0, 1, 0, 0, 0);
    same("x x - 2", x.factors(), 1);
    x.field(2, -2, 0, 0);
    putAll(x, 99, 0, 1, 0, 0, 0);
    same("x x - 2 splits", x.factors(), 2);
    putAll(x, 0, 0, 0, 0, 0, 5);
    same("5 x to the 5", x.factors(), 1);
    putAll(x, 0, 100, 0, 0, 0, 1);
    same("x to the 5, less x", x.factors(), 5);
  }

  /** 1 if a is such a power of a number, else 0; for power 5 all 5 roots are there then, as 5 goes into 100. */
  private static int isPower(int a, int power) {
    for (int x = 0; x < 101; x++) {
      int product = 1;
      for (int i = 0; i < power; i++) {
        product = product * x % 101;
      }
      if (product == a) {
        return 1;
      }
    }
    return 0;
  }

  // Promise 13
  private static void factor() {
    promise = "13 factor";
    NumberFieldFactors x = new NumberFieldFactors();
    thrown("0", STATE, () -> x.factor(0, 0));
    thrown("0 before a wrong index", STATE, () -> x.factor(-1, 9));
    x.put(0, 4);
    thrown("a number has none", INDEX, () -> x.factor(0, 0));
    // 2 (x - 1)(x x - 2)(x x - 3): 2 and 3 are no squares, and - 3 is written 98, - 2 is written 99.
    putAll(x, 89, 12, 10, 91, 99, 2);
    same("three", x.factors(), 3);
    row("lesser degree first", factorOf(x, 0), 100, 1, 0, 0, 0, 0);
    row("then the lesser element", factorOf(x, 1), 98, 0, 1, 0, 0, 0);
    row("then the greater", factorOf(x, 2), 99, 0, 1, 0, 0, 0);
    for (int any : new int[] {Integer.MIN_VALUE, -1, 3, 5, Integer.MAX_VALUE}) {
      thrown("factor " + any, INDEX, () -> x.factor(any, 0));
    }
    for (int any : new int[] {Integer.MIN_VALUE, -1, 6, Integer.MAX_VALUE}) {
      thrown("power " + any, INDEX, () -> x.factor(0, any));
    }
    row("f stays", polynomialOf(x), 89, 12, 10, 91, 99, 2);
    x.field(2, -2, 0, 0);
    putAll(x, 0, 99, 0, 1, 0, 0);
    row("x", factorOf(x, 0), 0, 1, 0, 0, 0, 0);
    row("x + t", factorOf(x, 1), 101, 1, 0, 0, 0, 0);
    row("x - t", factorOf(x, 2), 10100, 1, 0, 0, 0, 0);
    orderOfQuadratics(x);
  }

  /** The element at the highest power at which two factors differ counts, not that at a lower one. */
  private static void orderOfQuadratics(NumberFieldFactors x) {
    int low = -1;
    int high = -1;
    for (int c = 10200; c > 0; c--) {
      // x x + 5 x + c and x x + 4 x + c' have no root if 25 - 4 c and 16 - 4 c' are no squares.
      if (low < 0 && x.known(0, x.reckon(1, 25, x.reckon(2, 4, 10201 - c))) == 0) {
        low = 10201 - c;
      }
      if (high < 0 && x.known(0, x.reckon(1, 16, x.reckon(2, 4, c))) == 0) {
        high = c;
      }
    }
    int at1 = x.reckon(0, x.reckon(2, low, 4), x.reckon(2, high, 5));
    int at2 = x.reckon(0, 20, x.reckon(0, low, high));
    putAll(x, x.reckon(2, low, high), at1, at2, 9, 1, 0);
    same("two quadratics", x.factors(), 2);
    row("4 before 5, though its element at 0 is greater", factorOf(x, 0), high, 4, 1, 0, 0, 0);
    row("5 behind it", factorOf(x, 1), low, 5, 1, 0, 0, 0);
  }

  // Promise 14
  private static void often() {
    promise = "14 often";
    NumberFieldFactors x = new NumberFieldFactors();
    thrown("0", STATE, () -> x.often(0));
    thrown("0 before a wrong index", STATE, () -> x.often(7));
    x.put(0, 4);
    thrown("a number has none", INDEX, () -> x.often(0));
    putAll(x, 0, 0, 0, 0, 0, 3);
    same("3 x to the 5", x.often(0), 5);
    // 7 x x (x - 1)(x - 1)(x - 1)
    putAll(x, 0, 0, 94, 21, 80, 7);
    same("x twice", x.often(0), 2);
    same("x - 1 three times", x.often(1), 3);
    // (x x - 2)(x x - 2)(x - 5)
    putAll(x, 81, 4, 20, 97, 96, 1);
    same("x - 5 once", x.often(0), 1);
    same("x x - 2 twice", x.often(1), 2);
    for (int any : new int[] {Integer.MIN_VALUE, -1, 2, 5, Integer.MAX_VALUE}) {
      thrown("factor " + any, INDEX, () -> x.often(any));
    }
  }

  // Promise 15
  private static void splitting() {
    promise = "15 splitting";
    NumberFieldFactors x = new NumberFieldFactors();
    thrown("0", STATE, x::splitting);
    x.put(0, 4);
    same("a number", x.splitting(), 1);
    x.put(1, 1);
    same("linear", x.splitting(), 1);
    putAll(x, 99, 0, 1, 0, 0, 0);
    same("x x - 2", x.splitting(), 2);
    // x x x + x + 1 has no root: the same polynomial is a modulus of degree 3.
    putAll(x, 1, 1, 0, 1, 0, 0);
    same("x x x + x + 1", x.splitting(), 3);
    // (x x - 2)(x x x + x + 1)
    putAll(x, 99, 99, 1, 100, 0, 1);
    same("degrees 2 and 3", x.splitting(), 6);
    // (x x - 2)(x x - 3)
    putAll(x, 6, 0, 96, 0, 1, 0);
    same("degrees 2 and 2", x.splitting(), 2);
    // x x x x - 2: 2 has the order 100, and 4 goes into 100.
    putAll(x, 99, 0, 0, 0, 1, 0);
    same("degree 4", x.splitting(), 4);
    putAll(x, 99, 0, 0, 0, 0, 1);
    same("degree 5", x.splitting(), 5);
    x.field(2, -2, 0, 0);
    putAll(x, 99, 0, 1, 0, 0, 0);
    same("x x - 2, k 2", x.splitting(), 1);
    putAll(x, 99, 0, 0, 0, 1, 0);
    same("x x x x - 2, k 2", x.splitting(), 2);
    x.field(3, 1, 1, 0);
    putAll(x, 99, 99, 1, 100, 0, 1);
    same("degrees 2 and 3, k 3", x.splitting(), 2);
  }

  // Promise 16
  private static void move() {
    promise = "16 move";
    NumberFieldFactors x = new NumberFieldFactors();
    x.move(5);
    row("0", polynomialOf(x), 0, 0, 0, 0, 0, 0);
    putAll(x, 0, 0, 0, 0, 0, 1);
    x.move(1);
    row("x + 1 to the 5", polynomialOf(x), 1, 5, 10, 10, 5, 1);
    x.move(0);
    row("by 0", polynomialOf(x), 1, 5, 10, 10, 5, 1);
    x.move(100);
    row("and back", polynomialOf(x), 0, 0, 0, 0, 0, 1);
    x.field(2, -2, 0, 0);
    putAll(x, 3, 1, 1, 0, 0, 0);
    x.move(101);
    row("x x + x + 3 with x + t", polynomialOf(x), 5 + 101, 1 + 202, 1, 0, 0, 0);
    thrown("behind the last", ARGUMENT, () -> did(() -> x.move(10201)));
    for (int any : ANY) {
      thrown("a " + any, ARGUMENT, () -> did(() -> x.move(any)));
    }
    row("f stays", polynomialOf(x), 5 + 101, 1 + 202, 1, 0, 0, 0);
  }

  // Promise 17
  private static void take() {
    promise = "17 take";
    NumberFieldFactors x = new NumberFieldFactors();
    thrown("0", STATE, () -> did(() -> x.take(0)));
    thrown("0 before a wrong index", STATE, () -> did(() -> x.take(-1)));
    x.put(0, 4);
    thrown("a number has none", INDEX, () -> did(() -> x.take(0)));
    putAll(x, 89, 12, 10, 91, 99, 2);
    for (int any : new int[] {Integer.MIN_VALUE, -1, 3, 5, Integer.MAX_VALUE}) {
      thrown("factor " + any, INDEX, () -> did(() -> x.take(any)));
    }
    row("f stays", polynomialOf(x), 89, 12, 10, 91, 99, 2);
    x.take(2);
    row("x x - 2", polynomialOf(x), 99, 0, 1, 0, 0, 0);
    same("one factor is left", x.factors(), 1);
    same("once", x.often(0), 1);
    x.take(0);
    row("x x - 2 again", polynomialOf(x), 99, 0, 1, 0, 0, 0);
    row("modulus stays", modulusOf(x), 0, 1, 0, 0);
  }

  private static void answersAfterChanges() {
    promise = "answers follow changes of f";
    NumberFieldFactors x = new NumberFieldFactors();
    putAll(x, 100, 0, 1, 0, 0, 0);
    same("x x - 1", x.factors(), 2);
    x.put(0, 99);
    same("put", x.factors(), 1);
    x.move(1);
    row("move", factorOf(x, 0), 100, 2, 1, 0, 0, 0);
    x.put(0, 0);
    row("x x + 2 x", factorOf(x, 1), 2, 1, 0, 0, 0, 0);
    x.take(1);
    row("take", factorOf(x, 0), 2, 1, 0, 0, 0, 0);
    same("take leaves one", x.factors(), 1);
    x.field(2, -2, 0, 0);
    thrown("field", STATE, x::factors);
    x.put(0, 3);
    same("no factors are left over", x.factors(), 0);
    thrown("nor found", INDEX, () -> x.often(0));
    putAll(x, 99, 0, 1, 0, 0, 0);
    same("x x - 2, k 2", x.factors(), 2);
    x.field(2, -2, 0, 0);
    putAll(x, 99, 0, 0, 0, 0, 0);
    same("a field of the same kind", x.factors(), 0);
  }

  private static void thrownCallsChangeNothing() {
    promise = "what is thrown changes nothing";
    NumberFieldFactors x = new NumberFieldFactors();
    x.field(2, -2, 0, 0);
    putAll(x, 0, 99, 0, 1, 0, 0);
    same("before", x.factors(), 3);
    thrown("field", ARGUMENT, () -> did(() -> x.field(0, 0, 0, 0)));
    thrown("put", INDEX, () -> did(() -> x.put(6, 1)));
    thrown("put", ARGUMENT, () -> did(() -> x.put(0, 10201)));
    thrown("move", ARGUMENT, () -> did(() -> x.move(10201)));
    thrown("take", INDEX, () -> did(() -> x.take(3)));
    same("a product is no modulus", x.field(2, -4, 0, 0) ? 1 : 0, 0);
    row("modulus", modulusOf(x), 99, 0, 1, 0);
    row("f", polynomialOf(x), 0, 99, 0, 1, 0, 0);
    same("t t", x.reckon(2, 101, 101), 2);
    same("after", x.factors(), 3);
    row("x + t", factorOf(x, 1), 101, 1, 0, 0, 0, 0);
  }

  private static void become(NumberFieldFactors x, int k) {
    boolean done = k == 1 ? x.field(1, 0, 0, 0) : k == 2 ? x.field(2, -2, 0, 0) : x.field(3, 1, 1, 0);
    same("field " + k, done ? 1 : 0, 1);
  }

  private static void putAll(NumberFieldFactors x, int... f) {
    for (int i = 0; i < f.length; i++) {
      x.put(i, f[i]);
    }
  }

  private static int[] modulusOf(NumberFieldFactors x) {
    return new int[] {x.modulus(0), x.modulus(1), x.modulus(2), x.modulus(3)};
  }

  private static int[] polynomialOf(NumberFieldFactors x) {
    return new int[] {x.at(0), x.at(1), x.at(2), x.at(3), x.at(4), x.at(5)};
  }

  private static int[] minimalOf(NumberFieldFactors x, int a) {
    return new int[] {x.minimal(a, 0), x.minimal(a, 1), x.minimal(a, 2), x.minimal(a, 3)};
  }

  private static int[] factorOf(NumberFieldFactors x, int k) {
    int[] row = new int[6];
    for (int i = 0; i < row.length; i++) {
      row[i] = x.factor(k, i);
    }
    return row;
  }

  /** Without the zeros behind its highest power. */
  private static int[] normOf(NumberFieldFactors x) {
    int[] row = new int[20];
    int length = 0;
    for (int i = 0; i < row.length; i++) {
      row[i] = x.norm(i);
      length = row[i] != 0 ? i + 1 : length;
    }
    return Arrays.copyOf(row, length);
  }

  private static long did(Deed deed) {
    deed.run();
    return 0;
  }

  private static void same(String what, long got, long want) {
    checks++;
    if (got != want) {
      tell(what + " answered " + got + ", due is " + want);
    }
  }

  private static void row(String what, int[] got, int... want) {
    checks++;
    if (!Arrays.equals(got, want)) {
      tell(what + " answered " + Arrays.toString(got) + ", due is " + Arrays.toString(want));
    }
  }

  private static void thrown(String what, String want, Call call) {
    checks++;
    try {
      tell(what + " answered " + call.run() + ", due is " + want);
    } catch (RuntimeException e) {
      if (!e.getClass().getSimpleName().equals(want)) {
        tell(what + " threw " + e.getClass().getSimpleName() + ", due is " + want);
      }
    }
  }

  private static void tell(String text) {
    wrong++;
    System.out.println("promise " + promise + ": " + text);
  }
}
