/** RUNS counted in ways of their own. */
final class PlainRuns {
  private PlainRuns() {
  }

  /** Each place that makes a carry is followed on its own. */
  static int run(int n, int a, int b) {
    int longest = 0;
    for (int from = 0; from < n; from++) {
      if ((a >> from & b >> from & 1) == 1) {
        int to = from + 1;
        while (to < n && ((a ^ b) >> to & 1) == 1) {
          to++;
        }
        longest = Math.max(longest, to - from);
      }
    }
    return longest;
  }

  // Rows of n signs (make 1, hand on 2, neither 1) that nowhere have a make with k hand-ons behind it.
  static long runs(int n, int k) {
    long[] good = new long[n + 1];
    good[0] = 1;
    for (int i = 1; i <= n; i++) {
      good[i] = 4 * good[i - 1];
      // Those good until now whose first too long run is complete with this sign: the make is at i - k - 1.
      if (i >= k + 1) {
        good[i] -= good[i - k - 1] << k;
      }
    }
    return good[n];
  }

  /** Numerator and denominator. */
  static long[] mean(int n) {
    long above = 0;
    for (int k = 1; k <= n; k++) {
      above += k * (runs(n, k) - runs(n, k - 1));
    }
    long below = 1L << 2 * n;
    while (above % 2 == 0 && below % 2 == 0) {
      above /= 2;
      below /= 2;
    }
    return new long[] {above, below};
  }
}
