import java.util.Random;

/** Promises 18, 19, 20: RUNS, all pairs counted by them, their mean. */
public final class RunsTest {
  private static final Due DUE = new Due();

  public static void main(String[] args) {
    for (int n = 1; n <= 7; n++) {
      allPairs(n);
    }
    longNumbers();
    counts();
    means();
    edges();
    DUE.close();
  }

  /** Each place that makes a carry is followed on its own. */
  private static int plainRun(int n, int a, int b) {
    int longest = 0;
    for (int from = 0; from < n; from++) {
      if ((a >> from & b >> from & 1) == 1) {
        int to = from + 1;
        while (to < n && ((a ^ b) >> to & 1) == 1) {
          to++;
        }
        longest = Math.max(longest, to - from);
      }
    }
    return longest;
  }

  private static void allPairs(int n) {
    CarryNets x = new CarryNets();
    long[] pairs = new long[n + 1];
    long all = 0;
    for (int a = 0; a < 1 << n; a++) {
      for (int b = 0; b < 1 << n; b++) {
        int due = plainRun(n, a, b);
        DUE.is("run(" + n + ", " + a + ", " + b + ")", x.run(n, a, b), due);
        pairs[due]++;
        all += due;
      }
    }
    long most = 0;
    for (int k = 0; k <= n; k++) {
      most += pairs[k];
      DUE.is("runs(" + n + ", " + k + ")", x.runs(n, k), most);
    }
    DUE.is("denominator divides", (most / x.mean(n, 1)) * x.mean(n, 1), most);
    DUE.is("mean of " + n, x.mean(n, 0) * (most / x.mean(n, 1)), all);
  }

  private static void longNumbers() {
    CarryNets x = new CarryNets();
    Random random = new Random(18);
    for (int round = 0; round < 5000; round++) {
      int n = 1 + random.nextInt(31);
      int mask = (int) ((1L << n) - 1);
      int a = random.nextInt() & mask;
      int b = (round % 2 == 0 ? random.nextInt() : ~a ^ 1 << random.nextInt(31)) & mask;
      DUE.is("run(" + n + ", " + a + ", " + b + ")", x.run(n, a, b), plainRun(n, a, b));
    }
  }

  /** By the PLACE that ends the lowest stretch: a second way to count. */
  private static void counts() {
    CarryNets x = new CarryNets();
    for (int n = 1; n <= 31; n++) {
      for (int k = 0; k <= n; k++) {
        DUE.is("runs(" + n + ", " + k + ")", x.runs(n, k), countWithout(n, k));
      }
      DUE.is("all pairs of " + n, x.runs(n, n), 1L << 2 * n);
    }
  }

  // Numbers of n signs (3 kinds: make 1, hand on 2, neither 1) that nowhere have a make with k hand-ons behind it.
  private static long countWithout(int n, int k) {
    long[] good = new long[n + 1];
    good[0] = 1;
    for (int i = 1; i <= n; i++) {
      good[i] = 4 * good[i - 1];
      // Those good until now whose first too long run is complete with this sign: the make is at i - k - 1.
      if (i >= k + 1) {
        good[i] -= good[i - k - 1] << k;
      }
    }
    return good[n];
  }

  private static void means() {
    CarryNets x = new CarryNets();
    for (int n = 1; n <= 15; n++) {
      long all = 0;
      for (int k = 1; k <= n; k++) {
        all += k * (x.runs(n, k) - x.runs(n, k - 1));
      }
      long below = 1L << 2 * n;
      while (all % 2 == 0 && below % 2 == 0) {
        all /= 2;
        below /= 2;
      }
      DUE.is("mean(" + n + ", 0)", x.mean(n, 0), all);
      DUE.is("mean(" + n + ", 1)", x.mean(n, 1), below);
    }
  }

  private static void edges() {
    CarryNets x = new CarryNets();
    DUE.bad("run", x.run(0, 0, 0), x.run(32, 0, 0), x.run(8, -1, 0), x.run(8, 0, -1), x.run(8, 256, 0), x.run(8, 0, 256),
        x.run(31, Integer.MIN_VALUE, 0), x.run(-1, 0, 0), x.run(1, 2, 0));
    DUE.is("run(31, all, 1)", x.run(31, Integer.MAX_VALUE, 1), 31);
    DUE.is("run(1, 1, 1)", x.run(1, 1, 1), 1);
    DUE.is("run(1, 1, 0)", x.run(1, 1, 0), 0);
    DUE.bad("runs", x.runs(0, 0), x.runs(32, 0), x.runs(5, 6), x.runs(5, -1), x.runs(-1, -1), x.runs(31, 32));
    DUE.bad("mean", x.mean(0, 0), x.mean(16, 0), x.mean(5, 2), x.mean(5, -1), x.mean(-3, 1));
  }
}
