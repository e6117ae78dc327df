/** BLOCKS as the document tells them, way by way; s 0 stands for CHOICE. */
final class PlainBlocks {
  private PlainBlocks() {
  }

  static int worst(int[] size, int blocks, int s) {
    if (s == 0) {
      int carry = size[0];
      for (int q = 1; q < blocks; q++) {
        carry = Math.max(carry, size[q]) + 1;
      }
      return carry;
    }
    int worst = 0;
    for (int p = 0; p < blocks; p++) {
      worst = Math.max(worst, size[p]);
      for (int q = p + 1; q < blocks; q++) {
        worst = Math.max(worst, size[p] + s * (q - p - 1) + size[q] - 1);
      }
    }
    return worst;
  }

  /** The WORST of figures, or BAD if they tell no BLOCKS. */
  static int worstOf(long figures, int s) {
    String signs = new StringBuilder(Long.toHexString(figures)).reverse().toString();
    int[] size = new int[16];
    int all = 0;
    for (int q = 0; q < signs.length(); q++) {
      size[q] = Character.digit(signs.charAt(q), 16);
      all += size[q];
    }
    boolean told = signs.length() <= 12 && signs.indexOf('0') < 0 && all <= 32;
    return told ? worst(size, signs.length(), s) : CarryNets.BAD;
  }

  static long figures(int[] size, int blocks) {
    long figures = 0;
    for (int q = blocks - 1; q >= 0; q--) {
      figures = 16 * figures + size[q];
    }
    return figures;
  }

  /** The least WORST and its figures: the first that is found, the WORST and the BLOCKS growing. */
  static long[] best(int n, int s) {
    for (int worst = 1;; worst++) {
      for (int blocks = 1; blocks <= 12; blocks++) {
        int[] size = new int[blocks];
        if (put(size, blocks - 1, n, s, worst)) {
          return new long[] {worst, figures(size, blocks)};
        }
      }
    }
  }

  /** Puts BLOCKS q down to 0, the least size first, as long as no pair of those that stand goes beyond the WORST. */
  private static boolean put(int[] size, int q, int left, int s, int worst) {
    if (q < 0) {
      return left == 0;
    }
    if (left < q + 1 || left > (q + 1) * Math.min(15, worst)) {
      return false;
    }
    for (int next = 1; next <= Math.min(15, left); next++) {
      size[q] = next;
      if (!stands(size, q, s, worst)) {
        return false;
      }
      if (put(size, q - 1, left - next, s, worst)) {
        return true;
      }
    }
    return false;
  }

  private static boolean stands(int[] size, int q, int s, int worst) {
    int blocks = size.length;
    if (s == 0) {
      return size[q] + (q == 0 ? blocks - 1 : blocks - q) <= worst;
    }
    for (int p = q + 1; p < blocks; p++) {
      if (size[q] + s * (p - q - 1) + size[p] - 1 > worst) {
        return false;
      }
    }
    return size[q] <= worst;
  }
}
