import java.util.Arrays;
import java.util.Random;

/**
 * Answers against plain searches: every element is tried as a root, every element is squared, every norm multiplied out;
 * how many factors there are is told by a rank, which is not how the class finds them.
 */
public final class BruteForce {
  private static final int[][] MODULI = {{1, 0, 0, 0}, {1, 37, 0, 0}, {2, 99, 0, 0}, {2, 7, 5, 0}, {3, 1, 1, 0}, {3, 94, 77, 58}};

  private static int wrong = 0;
  private static int checks = 0;

  private final NumberFieldFactors x = new NumberFieldFactors();
  private final Random random = new Random(20);
  private final int k;
  private final int size;
  private final int[] modulus;

  private BruteForce(int[] given) {
    k = given[0];
    size = k == 1 ? 101 : k == 2 ? 10201 : 1030301;
    modulus = new int[] {given[1], given[2], given[3]};
    due("field", x.field(k, given[1], given[2], given[3]) ? 1 : 0, 1);
  }

  public static void main(String[] args) {
    for (int[] given : MODULI) {
      BruteForce one = new BruteForce(given);
      one.elements();
      one.squares();
      one.polynomials(300, given[0] == 1 ? 300 : given[0] == 2 ? 120 : 4);
    }
    System.out.println("BruteForce: " + checks + " checks, " + wrong + " wrong");
    if (wrong != 0) {
      System.exit(1);
    }
  }

  private void elements() {
    for (int i = 0; i < 300; i++) {
      int a = i < 10 ? i : random.nextInt(size);
      int b = 1 + random.nextInt(size - 1);
      due("sum", x.reckon(0, a, b), sum(a, b, 1));
      due("difference", x.reckon(1, a, b), sum(a, b, 100));
      due("product", x.reckon(2, a, b), product(a, b));
      due("quotient", product(x.reckon(3, a, b), b), a);
      int mate = power101(a);
      int next = power101(mate);
      due("mate", x.known(3, a), mate);
      due("product of mates", x.known(1, a), k == 1 ? a : k == 2 ? product(a, mate) : product(a, product(mate, next)));
      due("sum of mates", x.known(2, a), k == 1 ? a : k == 2 ? sum(a, mate, 1) : sum(a, sum(mate, next, 1), 1));
      int different = mate == a ? 1 : next == a ? 2 : 3;
      due("different mates", x.known(4, a), different);
      int[] least = times(new int[] {1}, new int[] {sum(0, a, 100), 1});
      least = different > 1 ? times(least, new int[] {sum(0, mate, 100), 1}) : least;
      least = different > 2 ? times(least, new int[] {sum(0, next, 100), 1}) : least;
      for (int p = 0; p < 4; p++) {
        due("least polynomial", x.minimal(a, p), p < least.length ? least[p] : 0);
      }
    }
  }

  private void squares() {
    boolean[] square = new boolean[size];
    for (int a = 0; a < size; a++) {
      square[product(a, a)] = true;
    }
    int step = k == 3 ? 211 : 1;
    for (int a = 0; a < size; a += step) {
      due("square", x.known(0, a), square[a] ? 1 : 0);
    }
  }

  /** Of so many; in the first of them roots are searched for too, which is dear where there are many elements. */
  private void polynomials(int many, int searched) {
    for (int i = 0; i < many; i++) {
      int[] f = i % 3 == 0 ? anyRow() : productOfFactors(i % 3 == 1);
      for (int p = 0; p < 6; p++) {
        x.put(p, f[p]);
      }
      int a = random.nextInt(size);
      due("value", x.value(a), valueOf(f, a));
      checkNorm(f);
      if (degree(f) >= 0) {
        checkFactors(f, i < searched);
        int[] root = rootOf();
        due("how many factors", x.factors(), countByRank(root));
        checkShift(root);
      }
      checkMove(f, a);
    }
  }

  private int[] anyRow() {
    int[] f = new int[6];
    int most = random.nextBoolean() ? size : 101;
    for (int p = random.nextInt(6); p >= 0; p--) {
      f[p] = random.nextInt(most);
    }
    return f;
  }

  private int[] productOfFactors(boolean linear) {
    int[] f = {1 + random.nextInt(size - 1)};
    int last = 0;
    int degree = random.nextInt(6);
    while (f.length <= degree) {
      int left = degree + 1 - f.length;
      int[] factor = new int[linear ? 2 : 2 + random.nextInt(left)];
      for (int p = 0; p < factor.length - 1; p++) {
        factor[p] = random.nextInt(size);
      }
      factor[0] = random.nextInt(4) == 0 ? last : random.nextInt(4) == 0 ? power101(last) : factor[0];
      factor[factor.length - 1] = 1;
      last = factor[0];
      f = times(f, factor);
    }
    return Arrays.copyOf(f, 6);
  }

  private void checkNorm(int[] f) {
    int[] due = normOf(f);
    for (int p = -2; p < 20; p++) {
      due("norm", x.norm(p), p >= 0 && p < due.length ? due[p] : 0);
    }
  }

  private int[] normOf(int[] f) {
    int[] norm = f;
    int[] mates = f;
    for (int i = 1; i < k; i++) {
      int[] next = new int[f.length];
      for (int p = 0; p < f.length; p++) {
        next[p] = power101(mates[p]);
      }
      mates = next;
      norm = times(norm, mates);
    }
    return norm;
  }

  private void checkFactors(int[] f, boolean searched) {
    int count = x.factors();
    int[] all = {f[degree(f)]};
    if (searched) {
      checkRoots(f, count);
    }
    for (int i = 0; i < count; i++) {
      int[] factor = factorOf(i);
      int degree = degree(factor);
      due("a factor's degree", degree > 0 ? 1 : 0, 1);
      due("a factor's head", factor[degree], 1);
      due("the order", i == 0 || isBefore(factorOf(i - 1), factor) ? 1 : 0, 1);
      due("no quadratic factor", k == 1 && degree > 3 && hasQuadratic(factor) ? 1 : 0, 0);
      for (int n = x.often(i); n > 0; n--) {
        all = times(all, Arrays.copyOf(factor, degree + 1));
      }
    }
    due("the degree of all factors", all.length - 1, degree(f));
    for (int p = 0; p < all.length; p++) {
      due("all factors", all[p], f[p]);
    }
    due("splitting", x.splitting(), leastCommon(count));
  }

  private void checkRoots(int[] f, int count) {
    int place = 0;
    for (int root = 0; root < size; root++) {
      // In the order of the elements at power 0, which are what the roots are less than 0 by.
      if (valueOf(f, sum(0, root, 100)) == 0) {
        due("a linear factor", place < count && degree(factorOf(place)) == 1 ? factorOf(place)[0] : -1, root);
        place++;
      }
    }
    for (int i = 0; i < count; i++) {
      due("linear factors first", degree(factorOf(i)) > 1 ? 1 : 0, i >= place ? 1 : 0);
    }
  }

  private int leastCommon(int count) {
    for (int n = 1; ; n++) {
      boolean all = true;
      for (int i = 0; i < count; i++) {
        all &= n % degree(factorOf(i)) == 0;
      }
      if (all) {
        return n;
      }
    }
  }

  private boolean hasQuadratic(int[] factor) {
    for (int b = 0; b < 101; b++) {
      for (int c = 0; c < 101; c++) {
        if (degree(rest(factor, new int[] {c, b, 1})) < 0) {
          return true;
        }
      }
    }
    return false;
  }

  private int[] rootOf() {
    int[] root = {1};
    for (int i = 0; i < x.factors(); i++) {
      root = times(root, Arrays.copyOf(factorOf(i), degree(factorOf(i)) + 1));
    }
    return root;
  }

  /**
   * Without squares there are as many factors as the polynomials of lower degree that their power of size leaves as they
   * are have dimensions.
   */
  private int countByRank(int[] root) {
    int degree = degree(root);
    int[] raised = powerOfX(size, root);
    int[][] rows = new int[degree][];
    int[] power = {1};
    for (int i = 0; i < degree; i++) {
      rows[i] = Arrays.copyOf(power, degree);
      rows[i][i] = sum(rows[i][i], 1, 100);
      power = left(times(power, raised), root);
    }
    return degree - rank(rows, degree);
  }

  private void checkShift(int[] root) {
    int t = k == 1 ? (101 - modulus[0]) % 101 : 101;
    int s = 0;
    while (hasSquare(normOf(moved(root, sum(0, product(s, t), 100))))) {
      s++;
    }
    due("shift", x.shift(), s);
  }

  private int[] powerOfX(int exponent, int[] root) {
    int[] power = {1};
    for (int bit = 30; bit >= 0; bit--) {
      power = left(times(power, power), root);
      if ((exponent >> bit & 1) == 1) {
        power = left(times(power, new int[] {0, 1}), root);
      }
    }
    return power;
  }

  /** What is left of f by g, which has 1 at its highest power. */
  private int[] left(int[] f, int[] g) {
    int degree = degree(g);
    int[] left = f.clone();
    for (int i = left.length - 1; i >= degree; i--) {
      int lead = left[i];
      for (int j = 0; j <= degree; j++) {
        left[i - degree + j] = sum(left[i - degree + j], product(lead, g[j]), 100);
      }
    }
    return Arrays.copyOf(left, Math.min(left.length, Math.max(degree, 1)));
  }

  private int rank(int[][] rows, int columns) {
    int rank = 0;
    for (int column = 0; column < columns; column++) {
      int pivot = rank;
      while (pivot < rows.length && rows[pivot][column] == 0) {
        pivot++;
      }
      if (pivot < rows.length) {
        int[] chosen = rows[pivot];
        rows[pivot] = rows[rank];
        rows[rank] = chosen;
        for (int i = rank + 1; i < rows.length; i++) {
          clear(rows[i], chosen, column);
        }
        rank++;
      }
    }
    return rank;
  }

  /** The row times the other's head, less the other times the row's: so nothing need be divided. */
  private void clear(int[] row, int[] other, int column) {
    int mine = row[column];
    int others = other[column];
    for (int j = 0; j < row.length; j++) {
      row[j] = sum(product(row[j], others), product(other[j], mine), 100);
    }
  }

  /** A square in it is one in its derivative too: the rest of one by the other, again and again, tells. */
  private boolean hasSquare(int[] norm) {
    int[] a = norm;
    int[] b = new int[norm.length];
    for (int p = 1; p < norm.length; p++) {
      b[p - 1] = norm[p] * p % 101;
    }
    while (degree(b) >= 0) {
      int[] next = rest(a, b);
      a = b;
      b = next;
    }
    return degree(a) > 0;
  }

  private void checkMove(int[] f, int a) {
    x.move(a);
    int[] due = moved(f, a);
    for (int p = 0; p < 6; p++) {
      due("move", x.at(p), p < due.length ? due[p] : 0);
    }
  }

  /** The sum of f's elements times powers of x + a. */
  private int[] moved(int[] f, int a) {
    int[] result = new int[f.length];
    int[] power = {1};
    for (int p = 0; p < f.length; p++) {
      for (int i = 0; i < power.length; i++) {
        result[i] = sum(result[i], product(f[p], power[i]), 1);
      }
      power = times(power, new int[] {a, 1});
    }
    return result;
  }

  private int[] factorOf(int i) {
    int[] row = new int[6];
    for (int p = 0; p < 6; p++) {
      row[p] = x.factor(i, p);
    }
    return row;
  }

  private static boolean isBefore(int[] a, int[] b) {
    for (int p = 5; p >= 0; p--) {
      // As all have 1 as their head, the lesser degree has the lesser element, 0, where they first differ.
      if (a[p] != b[p]) {
        return degree(a) != degree(b) ? degree(a) < degree(b) : a[p] < b[p];
      }
    }
    return false;
  }

  private static int degree(int[] f) {
    int p = f.length - 1;
    while (p >= 0 && f[p] == 0) {
      p--;
    }
    return p;
  }

  private int valueOf(int[] f, int a) {
    int sum = 0;
    for (int p = degree(f); p >= 0; p--) {
      sum = sum(product(sum, a), f[p], 1);
    }
    return sum;
  }

  private int[] times(int[] f, int[] g) {
    int[] result = new int[f.length + g.length - 1];
    for (int i = 0; i < f.length; i++) {
      for (int j = 0; j < g.length; j++) {
        result[i + j] = sum(result[i + j], product(f[i], g[j]), 1);
      }
    }
    return result;
  }

  /** Of polynomials of numbers: what is left of f by g. */
  private static int[] rest(int[] f, int[] g) {
    int[] left = f.clone();
    int degree = degree(g);
    int inverse = 1;
    while (inverse * g[degree] % 101 != 1) {
      inverse++;
    }
    for (int i = left.length - 1; i >= degree; i--) {
      int lead = left[i] * inverse % 101;
      for (int j = 0; j <= degree; j++) {
        left[i - degree + j] = (left[i - degree + j] + (101 - lead) * g[j]) % 101;
      }
    }
    return left;
  }

  private static int sum(int a, int b, int timesB) {
    int result = 0;
    for (int unit = 1; unit <= 10201; unit *= 101) {
      result += unit * ((a / unit % 101 + timesB * (b / unit % 101)) % 101);
    }
    return result;
  }

  /** By a's digits, from the highest on: t times what is there, and the digit times b. */
  private int product(int a, int b) {
    int result = 0;
    for (int unit = size / 101; unit >= 1; unit /= 101) {
      result = sum(timesT(result), b, a / unit % 101);
    }
    return result;
  }

  private int timesT(int a) {
    int high = a / (size / 101);
    int result = a % (size / 101) * 101;
    int low = modulus[0] + (k > 1 ? 101 * modulus[1] : 0) + (k > 2 ? 10201 * modulus[2] : 0);
    return sum(k == 1 ? 0 : result, low, (101 - high) % 101);
  }

  private int power101(int a) {
    int result = 1;
    for (int i = 0; i < 101; i++) {
      result = product(result, a);
    }
    return result;
  }

  private static void due(String what, int got, int want) {
    checks++;
    if (got != want) {
      wrong++;
      if (wrong < 50) {
        System.out.println(what + " answered " + got + ", due is " + want);
      }
    }
  }
}
