import java.util.Random;

/** Promises 18, 19, 20: RUNS, all pairs counted by them, their mean. */
public final class RunsTest {
  private static final Due DUE = new Due();

  public static void main(String[] args) {
    for (int n = 1; n <= 7; n++) {
      allPairs(n);
    }
    longNumbers();
    counts();
    means();
    DUE.close();
  }

  private static void allPairs(int n) {
    long[] pairs = new long[n + 1];
    long all = 0;
    for (int a = 0; a < 1 << n; a++) {
      CarryNets x = new CarryNets();
      for (int b = 0; b < 1 << n; b++) {
        int due = PlainRuns.run(n, a, b);
        DUE.is("run(" + n + ", " + a + ", " + b + ")", x.run(n, a, b), due);
        pairs[due]++;
        all += due;
      }
    }
    CarryNets x = new CarryNets();
    long most = 0;
    for (int k = 0; k <= n; k++) {
      most += pairs[k];
      DUE.is("runs(" + n + ", " + k + ")", x.runs(n, k), most);
    }
    DUE.is("denominator divides", (most / x.mean(n, 1)) * x.mean(n, 1), most);
    DUE.is("mean of " + n, x.mean(n, 0) * (most / x.mean(n, 1)), all);
  }

  private static void longNumbers() {
    Random random = new Random(18);
    for (int round = 0; round < 5000; round++) {
      CarryNets x = new CarryNets();
      int n = 1 + random.nextInt(31);
      int mask = (int) ((1L << n) - 1);
      int a = random.nextInt() & mask;
      int b = (round % 2 == 0 ? random.nextInt() : ~a ^ 1 << random.nextInt(31)) & mask;
      DUE.is("run(" + n + ", " + a + ", " + b + ")", x.run(n, a, b), PlainRuns.run(n, a, b));
    }
  }

  private static void counts() {
    for (int n = 1; n <= 31; n++) {
      CarryNets x = new CarryNets();
      for (int k = 0; k <= n; k++) {
        DUE.is("runs(" + n + ", " + k + ")", x.runs(n, k), PlainRuns.runs(n, k));
      }
      DUE.is("all pairs of " + n, x.runs(n, n), 1L << 2 * n);
    }
  }

  private static void means() {
    CarryNets x = new CarryNets();
    for (int n = 1; n <= 15; n++) {
      DUE.is("mean(" + n + ", 0)", x.mean(n, 0), PlainRuns.mean(n)[0]);
      DUE.is("mean(" + n + ", 1)", x.mean(n, 1), PlainRuns.mean(n)[1]);
    }
  }
}
