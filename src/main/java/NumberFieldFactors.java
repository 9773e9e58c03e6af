/** Polynomials in x over an extension of the numbers modulo 101, and their factors. */
public final class NumberFieldFactors {
  private static final int PRIME = 101;
  private static final int PRIME_SQUARED = 10201;
  private static final int PRIME_CUBED = 1030301;
  private static final int MOST_MODULUS = 3;
  private static final int MOST_POWER = 5;
  /** The norm of a polynomial of degree 5 has degree 15 at most. */
  private static final int ROW_LENGTH = 16;
  /** The exponents that are used are below 2 to the 40. */
  private static final int EXPONENT_BITS = 40;
  /** Far above every splitting degree: the greatest is that of 2 and 3. */
  private static final int MOST_SPLITTING = 60;

  private final Row f = new Row();
  private final Ring ring = new Ring();
  private final Splitter splitter = new Splitter();

  public NumberFieldFactors() {
  }

  public boolean field(int k, long a, long b, long c) throws IllegalArgumentException {
    if (k < 1 || k > MOST_MODULUS) {
      throw new IllegalArgumentException("k isn't 1 .. 3");
    }
    if (!ring.extension.become(k, numberOf(a), numberOf(b), numberOf(c))) {
      return false;
    }
    f.clear();
    splitter.forget();
    return true;
  }

  public int modulus(int power) throws IndexOutOfBoundsException {
    if (power < 0 || power > MOST_MODULUS) {
      throw new IndexOutOfBoundsException("the modulus has powers 0 .. 3");
    }
    return ring.extension.modulusAt(power);
  }

  public boolean put(int power, int element) throws IndexOutOfBoundsException, IllegalArgumentException {
    requirePower(power);
    requireElement(element);
    if (f.get(power) == element) {
      return false;
    }
    f.set(power, element);
    splitter.forget();
    return true;
  }

  public int at(int power) throws IndexOutOfBoundsException {
    requirePower(power);
    return f.get(power);
  }

  public int reckon(int kind, int a, int b) throws IllegalArgumentException, ArithmeticException {
    requireElement(a);
    requireElement(b);
    if (kind < 0 || kind > 3) {
      throw new IllegalArgumentException("no such kind");
    }
    if (kind == 3 && b == 0) {
      throw new ArithmeticException("a quotient by 0");
    }
    Extension extension = ring.extension;
    switch (kind) {
      case 0:
        return extension.plus(a, b);
      case 1:
        return extension.minus(a, b);
      case 2:
        return extension.times(a, b);
      default:
        return extension.times(a, extension.power(b, extension.size - 2));
    }
  }

  public int known(int what, int a) throws IllegalArgumentException {
    requireElement(a);
    if (what < 0 || what > 4) {
      throw new IllegalArgumentException("no such what");
    }
    Extension extension = ring.extension;
    switch (what) {
      case 0:
        return extension.isSquare(a) ? 1 : 0;
      case 1:
        return extension.matesProduct(a);
      case 2:
        return extension.matesSum(a);
      case 3:
        return extension.mate(a);
      default:
        return extension.differentMates(a);
    }
  }

  public int minimal(int a, int power) throws IndexOutOfBoundsException, IllegalArgumentException {
    if (power < 0 || power > MOST_MODULUS) {
      throw new IndexOutOfBoundsException("a least polynomial has powers 0 .. 3");
    }
    requireElement(a);
    return ring.leastPolynomial(a).get(power);
  }

  public int value(int a) throws IllegalArgumentException {
    requireElement(a);
    return ring.valueOf(f, a);
  }

  public int norm(int power) {
    return ring.normOf(f).get(power);
  }

  public int shift() throws IllegalStateException {
    requireSome();
    splitter.find(ring, f);
    return ring.leastShift(splitter.root);
  }

  public int factors() throws IllegalStateException {
    requireSome();
    splitter.find(ring, f);
    return splitter.count;
  }

  public int factor(int k, int power) throws IllegalStateException, IndexOutOfBoundsException {
    requireSome();
    requirePower(power);
    splitter.find(ring, f);
    requireFactor(k);
    return splitter.part(k).get(power);
  }

  public int often(int k) throws IllegalStateException, IndexOutOfBoundsException {
    requireSome();
    splitter.find(ring, f);
    requireFactor(k);
    return splitter.timesOf(k);
  }

  public int splitting() throws IllegalStateException {
    requireSome();
    splitter.find(ring, f);
    return splitter.commonDegree();
  }

  public void move(int a) throws IllegalArgumentException {
    requireElement(a);
    ring.displace(f, a);
    splitter.forget();
  }

  public void take(int k) throws IllegalStateException, IndexOutOfBoundsException {
    requireSome();
    splitter.find(ring, f);
    requireFactor(k);
    f.copy(splitter.part(k));
    splitter.forget();
  }

  private static int numberOf(long any) {
    int rest = (int) (any % PRIME);
    return rest < 0 ? rest + PRIME : rest;
  }

  private static void requirePower(int power) {
    if (power < 0 || power > MOST_POWER) {
      throw new IndexOutOfBoundsException("a polynomial has powers 0 .. 5");
    }
  }

  private void requireElement(int element) {
    if (element < 0 || element >= ring.extension.size) {
      throw new IllegalArgumentException("no such element");
    }
  }

  private void requireSome() {
    if (f.degree() < 0) {
      throw new IllegalStateException("f is 0");
    }
  }

  private void requireFactor(int k) {
    if (k < 0 || k >= splitter.count) {
      throw new IndexOutOfBoundsException("no such factor");
    }
  }

  /** A polynomial: the element at each power. Powers that it has no room for hold 0. */
  private static final class Row {
    private final int[] elements = new int[ROW_LENGTH];

    int get(int power) {
      return power >= 0 && power < elements.length ? elements[power] : 0;
    }

    void set(int power, int element) {
      if (power >= 0 && power < elements.length) {
        elements[power] = element;
      }
    }

    /** The highest power that isn't 0; -1 if all are. */
    int degree() {
      int power = elements.length - 1;
      while (power >= 0 && elements[power] == 0) {
        power--;
      }
      return power;
    }

    void clear() {
      for (int i = 0; i < elements.length; i++) {
        elements[i] = 0;
      }
    }

    void copy(Row other) {
      for (int i = 0; i < elements.length; i++) {
        elements[i] = other.get(i);
      }
    }

    void becomeOne() {
      clear();
      set(0, 1);
    }

    /** Whether this one, as a factor, stands before the other. */
    boolean isBefore(Row other) {
      int mine = degree();
      int others = other.degree();
      if (mine != others) {
        return mine < others;
      }
      for (int i = mine; i >= 0; i--) {
        if (get(i) != other.get(i)) {
          return get(i) < other.get(i);
        }
      }
      return false;
    }
  }

  /** The modulus, and the elements that it leaves. */
  private static final class Extension {
    private int degree = 1;
    private int size = PRIME;
    private int low0 = 0;
    private int low1 = 0;
    private int low2 = 0;
    /** The element t; with a modulus of degree 1 it is a number. */
    private int t = 0;
    private int mateOfT = 0;
    private int mateOfTSquared = 0;

    boolean become(int k, int a, int b, int c) {
      int b1 = k > 1 ? b : 0;
      int c2 = k > 2 ? c : 0;
      if (k > 1 && hasRoot(k, a, b1, c2)) {
        return false;
      }
      degree = k;
      size = k == 1 ? PRIME : k == 2 ? PRIME_SQUARED : PRIME_CUBED;
      low0 = a;
      low1 = b1;
      low2 = c2;
      t = k == 1 ? (PRIME - a) % PRIME : PRIME;
      mateOfT = power(t, PRIME);
      mateOfTSquared = times(mateOfT, mateOfT);
      return true;
    }

    /** A product of degree 2 or 3 has a factor of degree 1, and so a root. */
    private static boolean hasRoot(int k, int a, int b, int c) {
      for (int x = 0; x < PRIME; x++) {
        int high = k == 2 ? 1 : (x + c) % PRIME;
        if (((high * x + b) % PRIME * x + a) % PRIME == 0) {
          return true;
        }
      }
      return false;
    }

    int modulusAt(int power) {
      if (power == degree) {
        return 1;
      }
      switch (power) {
        case 0:
          return low0;
        case 1:
          return low1;
        case 2:
          return low2;
        default:
          return 0;
      }
    }

    int plus(int a, int b) {
      int c0 = (a % PRIME + b % PRIME) % PRIME;
      int c1 = (a / PRIME % PRIME + b / PRIME % PRIME) % PRIME;
      int c2 = (a / PRIME_SQUARED + b / PRIME_SQUARED) % PRIME;
      return c0 + PRIME * c1 + PRIME_SQUARED * c2;
    }

    int minus(int a, int b) {
      int c0 = (a % PRIME - b % PRIME + PRIME) % PRIME;
      int c1 = (a / PRIME % PRIME - b / PRIME % PRIME + PRIME) % PRIME;
      int c2 = (a / PRIME_SQUARED - b / PRIME_SQUARED + PRIME) % PRIME;
      return c0 + PRIME * c1 + PRIME_SQUARED * c2;
    }

    int times(int a, int b) {
      if (a < PRIME && b < PRIME) {
        return a * b % PRIME;
      }
      int a0 = a % PRIME;
      int a1 = a / PRIME % PRIME;
      int a2 = a / PRIME_SQUARED;
      int b0 = b % PRIME;
      int b1 = b / PRIME % PRIME;
      int b2 = b / PRIME_SQUARED;
      int c0 = a0 * b0;
      int c1 = a0 * b1 + a1 * b0;
      int c2 = a0 * b2 + a1 * b1 + a2 * b0;
      if (degree == 2) {
        // Less by multiples of the modulus, but never below 0: so PRIME - high, not high, is added.
        int over = (PRIME - c2 % PRIME) % PRIME;
        c1 += over * low1;
        c0 += over * low0;
        return c0 % PRIME + PRIME * (c1 % PRIME);
      }
      int over4 = (PRIME - a2 * b2 % PRIME) % PRIME;
      int c3 = a1 * b2 + a2 * b1 + over4 * low2;
      int over3 = (PRIME - c3 % PRIME) % PRIME;
      c2 += over4 * low1 + over3 * low2;
      c1 += over4 * low0 + over3 * low1;
      c0 += over3 * low0;
      return c0 % PRIME + PRIME * (c1 % PRIME) + PRIME_SQUARED * (c2 % PRIME);
    }

    /** With size - 2 as the exponent it is what goes a times into 1. */
    int power(int a, int exponent) {
      int result = 1;
      int square = a;
      for (int left = exponent; left > 0; left >>= 1) {
        if ((left & 1) == 1) {
          result = times(result, square);
        }
        square = times(square, square);
      }
      return result;
    }

    /** The element to the power of 101: sums and numbers go through that power unchanged. */
    int mate(int a) {
      int high = times(a / PRIME_SQUARED, mateOfTSquared);
      int middle = times(a / PRIME % PRIME, mateOfT);
      return plus(a % PRIME, plus(middle, high));
    }

    boolean isSquare(int a) {
      return a == 0 || power(a, size / 2) == 1;
    }

    int matesProduct(int a) {
      int product = a;
      int next = a;
      for (int i = 1; i < degree; i++) {
        next = mate(next);
        product = times(product, next);
      }
      return product;
    }

    int matesSum(int a) {
      int sum = a;
      int next = a;
      for (int i = 1; i < degree; i++) {
        next = mate(next);
        sum = plus(sum, next);
      }
      return sum;
    }

    /** 1, 2 and 3 have no divisors between 1 and themselves: so it is one mate, or all. */
    int differentMates(int a) {
      return mate(a) == a ? 1 : degree;
    }
  }

  /** What is done with polynomials over the extension. The rows are made once and used by every call. */
  private static final class Ring {
    private final Extension extension = new Extension();
    private final Row wide = new Row();
    private final Row quotient = new Row();
    private final Row older = new Row();
    private final Row newer = new Row();
    private final Row derived = new Row();
    private final Row mates = new Row();
    private final Row product = new Row();
    private final Row moved = new Row();
    private final Row least = new Row();
    private final Row common = new Row();

    int valueOf(Row a, int x) {
      int sum = 0;
      for (int i = a.degree(); i >= 0; i--) {
        sum = extension.plus(extension.times(sum, x), a.get(i));
      }
      return sum;
    }

    /** a becomes a with x + by in place of x. */
    void displace(Row a, int by) {
      int degree = a.degree();
      for (int i = 0; i < degree; i++) {
        for (int j = degree - 1; j >= i; j--) {
          a.set(j, extension.plus(a.get(j), extension.times(by, a.get(j + 1))));
        }
      }
    }

    /** a becomes a times b; both may be the same row. */
    void multiply(Row a, Row b) {
      int most = a.degree();
      int others = b.degree();
      wide.clear();
      for (int i = 0; i <= most; i++) {
        int one = a.get(i);
        for (int j = 0; one != 0 && j <= others; j++) {
          wide.set(i + j, extension.plus(wide.get(i + j), extension.times(one, b.get(j))));
        }
      }
      a.copy(wide);
    }

    /** a becomes a times x + c. */
    void multiplyLinear(Row a, int c) {
      for (int i = a.degree() + 1; i >= 0; i--) {
        a.set(i, extension.plus(a.get(i - 1), extension.times(c, a.get(i))));
      }
    }

    /** a becomes what is left of it by b, which has 1 at its highest power; quotient is how often b went into it. */
    void divide(Row a, Row b) {
      int degree = b.degree();
      quotient.clear();
      for (int i = a.degree(); degree >= 0 && i >= degree; i--) {
        int lead = a.get(i);
        quotient.set(i - degree, lead);
        for (int j = 0; lead != 0 && j <= degree; j++) {
          int place = i - degree + j;
          a.set(place, extension.minus(a.get(place), extension.times(lead, b.get(j))));
        }
      }
    }

    void makeMonic(Row a) {
      int degree = a.degree();
      int lead = a.get(degree);
      if (lead == 0 || lead == 1) {
        return;
      }
      int inverse = extension.power(lead, extension.size - 2);
      for (int i = 0; i <= degree; i++) {
        a.set(i, extension.times(a.get(i), inverse));
      }
    }

    /** The greatest that divides both, with 1 at its highest power; 0 if both are 0. */
    void findCommon(Row a, Row b, Row into) {
      older.copy(a);
      newer.copy(b);
      Row left = older;
      Row right = newer;
      for (int step = 0; step <= ROW_LENGTH + 1 && right.degree() >= 0; step++) {
        makeMonic(right);
        divide(left, right);
        Row rest = left;
        left = right;
        right = rest;
      }
      makeMonic(left);
      into.copy(left);
    }

    /** What a and its derivative share: squares alone, as no power above 0 of a row is a multiple of 101. */
    void findSquares(Row a, Row into) {
      derived.clear();
      for (int i = a.degree(); i > 0; i--) {
        derived.set(i - 1, extension.times(i, a.get(i)));
      }
      findCommon(a, derived, into);
    }

    /** into becomes x + c to the exponent, less multiples of b, which has a degree above 0. */
    void raiseLinear(int c, long exponent, Row b, Row into) {
      into.becomeOne();
      for (int bit = EXPONENT_BITS; bit >= 0; bit--) {
        if (exponent >> bit == 0) {
          continue;
        }
        multiply(into, into);
        if ((exponent >> bit & 1) == 1) {
          multiplyLinear(into, c);
        }
        divide(into, b);
      }
    }

    Row normOf(Row a) {
      product.copy(a);
      mates.copy(a);
      int most = a.degree();
      for (int i = 1; i < extension.degree; i++) {
        for (int j = 0; j <= most; j++) {
          mates.set(j, extension.mate(mates.get(j)));
        }
        multiply(product, mates);
      }
      return product;
    }

    Row leastPolynomial(int a) {
      int different = extension.differentMates(a);
      int mate = a;
      least.becomeOne();
      for (int i = 0; i < different; i++) {
        multiplyLinear(least, extension.minus(0, mate));
        mate = extension.mate(mate);
      }
      return least;
    }

    int leastShift(Row root) {
      for (int s = 0; s < PRIME; s++) {
        moved.copy(root);
        displace(moved, extension.minus(0, extension.times(s, extension.t)));
        findSquares(normOf(moved), common);
        if (common.degree() <= 0) {
          return s;
        }
      }
      // Never: two roots with two different mates of t spoil one s at most, and there are 75 such choices.
      return 0;
    }
  }

  /** The factors of a polynomial, found when they are asked for and kept until it changes. */
  private static final class Splitter {
    private final Row[] parts = new Row[MOST_POWER];
    private final int[] counts = new int[MOST_POWER];
    private int count = 0;
    private boolean found = false;
    private final Row root = new Row();
    private final Row rest = new Row();
    private final Row power = new Row();
    private final Row shared = new Row();

    Splitter() {
      for (int i = 0; i < parts.length; i++) {
        parts[i] = new Row();
      }
    }

    void forget() {
      found = false;
    }

    Row part(int k) {
      return k >= 0 && k < parts.length ? parts[k] : root;
    }

    int timesOf(int k) {
      return k >= 0 && k < counts.length ? counts[k] : 0;
    }

    /** The least number that the degrees of all factors go into. */
    int commonDegree() {
      for (int n = 1; n <= MOST_SPLITTING; n++) {
        boolean all = true;
        for (int i = 0; i < count; i++) {
          int degree = part(i).degree();
          all = all && degree > 0 && n % degree == 0;
        }
        if (all) {
          return n;
        }
      }
      return 0;
    }

    void find(Ring ring, Row f) {
      if (found) {
        return;
      }
      count = 0;
      ring.findSquares(f, shared);
      keepRoot(ring, f);
      rest.copy(root);
      for (int degree = 1; degree <= MOST_POWER && rest.degree() >= 2 * degree; degree++) {
        int first = count;
        collect(ring, degree);
        separate(ring, first, degree);
      }
      // Two factors would now have a higher degree than the rest has: so it is one, or 1.
      if (rest.degree() > 0) {
        add(rest);
      }
      sort();
      countTimes(ring, f);
      found = true;
    }

    /** What f shares with its derivative has each factor once less than f has it. */
    private void keepRoot(Ring ring, Row f) {
      root.copy(f);
      ring.divide(root, shared);
      root.copy(ring.quotient);
      ring.makeMonic(root);
    }

    private void add(Row a) {
      if (count < parts.length) {
        parts[count].copy(a);
        count++;
      }
    }

    private static long sizeToThe(Ring ring, int degree) {
      long size = ring.extension.size;
      return degree == 1 ? size : size * size;
    }

    /**
     * The product of all factors of this degree goes from rest to the parts. x to the (size to the degree), less x, has
     * them all, and of higher degrees none.
     */
    private void collect(Ring ring, int degree) {
      ring.raiseLinear(0, sizeToThe(ring, degree), rest, power);
      power.set(1, ring.extension.minus(power.get(1), 1));
      ring.findCommon(rest, power, shared);
      if (shared.degree() > 0) {
        add(shared);
        ring.divide(rest, shared);
        rest.copy(ring.quotient);
      }
    }

    /**
     * Parts from first on become factors of this degree. x + c to half of the exponent that makes it 1 is 1 by some
     * factors and -1 by others; for any two factors of degree 1 or 2 there is a c that tells them apart.
     */
    private void separate(Ring ring, int first, int degree) {
      int size = ring.extension.size;
      // The lowest digit of the stride isn't 0, so the walk meets every element; its digits differ, so that c soon
      // leaves the elements that treat mates alike.
      int stride = size * 382 / 1000;
      long half = (sizeToThe(ring, degree) - 1) / 2;
      int c = stride;
      boolean open = true;
      for (int tries = 0; tries < size && open; tries++) {
        open = false;
        int end = count;
        for (int i = first; i < end; i++) {
          if (part(i).degree() > degree) {
            open = true;
            ring.raiseLinear(c, half, part(i), power);
            power.set(0, ring.extension.minus(power.get(0), 1));
            ring.findCommon(part(i), power, shared);
            if (shared.degree() > 0 && shared.degree() < part(i).degree()) {
              ring.divide(part(i), shared);
              part(i).copy(ring.quotient);
              add(shared);
            }
          }
        }
        c += stride;
        c = c >= size ? c - size : c;
      }
    }

    private void sort() {
      for (int i = 1; i < count && i < parts.length; i++) {
        Row one = parts[i];
        int place = i;
        while (place > 0 && one.isBefore(parts[place - 1])) {
          parts[place] = parts[place - 1];
          place--;
        }
        parts[place] = one;
      }
    }

    private void countTimes(Ring ring, Row f) {
      for (int i = 0; i < count && i < counts.length; i++) {
        counts[i] = 0;
        rest.copy(f);
        for (int n = 0; n <= MOST_POWER; n++) {
          ring.divide(rest, part(i));
          if (rest.degree() >= 0) {
            break;
          }
          counts[i]++;
          rest.copy(ring.quotient);
        }
      }
    }
  }
}
