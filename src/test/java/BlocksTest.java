import java.util.Random;

/** Promises 16, 17: the WORST of BLOCKS, and the best sizes compared with all others. */
public final class BlocksTest {
  private static final Due DUE = new Due();

  public static void main(String[] args) {
    someBlocks();
    blocksEdges();
    for (int n = 1; n <= 16; n++) {
      for (int s = 0; s <= 9; s++) {
        compareWithAll(n, s);
      }
    }
    for (int n = 17; n <= 32; n++) {
      for (int s = 0; s <= 9; s++) {
        compareWithSearch(n, s);
      }
    }
    sizesEdges();
    DUE.close();
  }

  /** As the document tells it, way by way (s 0: CHOICE). */
  private static int worst(int[] size, int blocks, int s) {
    if (s == 0) {
      int carry = size[0];
      for (int q = 1; q < blocks; q++) {
        carry = Math.max(carry, size[q]) + 1;
      }
      return carry;
    }
    int worst = 0;
    for (int p = 0; p < blocks; p++) {
      worst = Math.max(worst, size[p]);
      for (int q = p + 1; q < blocks; q++) {
        worst = Math.max(worst, size[p] + s * (q - p - 1) + size[q] - 1);
      }
    }
    return worst;
  }

  private static long figures(int[] size, int blocks) {
    long figures = 0;
    for (int q = blocks - 1; q >= 0; q--) {
      figures = 16 * figures + size[q];
    }
    return figures;
  }

  private static void someBlocks() {
    Random random = new Random(16);
    CarryNets x = new CarryNets();
    for (int round = 0; round < 5000; round++) {
      int[] size = new int[12];
      int blocks = 1 + random.nextInt(12);
      int all = 0;
      for (int q = 0; q < blocks; q++) {
        size[q] = 1 + random.nextInt(round % 2 == 0 ? 15 : 4);
        all += size[q];
      }
      int s = random.nextInt(10);
      int due = all > 32 ? CarryNets.BAD : worst(size, blocks, s);
      long figures = figures(size, blocks);
      DUE.is("blocks " + Long.toHexString(figures) + " s " + s, x.blocks(figures, s == 0 ? 1 : 0, s), due);
    }
  }

  private static void blocksEdges() {
    CarryNets x = new CarryNets();
    DUE.is("twelve", x.blocks(0x111111111111L, 0, 1), 11);
    DUE.is("twelve by CHOICE", x.blocks(0x111111111111L, 1, 99), 12);
    DUE.bad("thirteen", x.blocks(0x1111111111111L, 0, 1));
    DUE.is("32 PLACES", x.blocks(0xff2, 1, 0), 17);
    DUE.bad("33 PLACES", x.blocks(0xff3, 1, 0));
    DUE.is("one", x.blocks(15, 0, 9), 15);
    DUE.is("one by CHOICE", x.blocks(15, 1, -7), 15);
    DUE.bad("blocks", x.blocks(0, 0, 1), x.blocks(0, 1, 1), x.blocks(-1, 1, 1), x.blocks(Long.MIN_VALUE, 1, 1),
        x.blocks(Long.MAX_VALUE, 1, 1), x.blocks(0x10, 0, 1), x.blocks(0x101, 0, 1), x.blocks(0x110, 0, 1),
        x.blocks(1, 2, 1), x.blocks(1, -1, 1), x.blocks(1, 0, 0), x.blocks(1, 0, 10), x.blocks(1L << 48, 1, 1));
  }

  private static int leastWorst;
  private static int leastBlocks;
  private static long leastFigures;

  private static void compareWithAll(int n, int s) {
    leastWorst = Integer.MAX_VALUE;
    tryAll(new int[12], 0, n, s);
    due(n, s, leastWorst, leastFigures);
  }

  private static void tryAll(int[] size, int blocks, int left, int s) {
    if (left == 0) {
      int worst = worst(size, blocks, s);
      long figures = figures(size, blocks);
      boolean better = worst != leastWorst ? worst < leastWorst
          : blocks != leastBlocks ? blocks < leastBlocks : figures < leastFigures;
      if (better) {
        leastWorst = worst;
        leastBlocks = blocks;
        leastFigures = figures;
      }
      return;
    }
    for (int next = 1; next <= Math.min(15, left) && blocks < 12; next++) {
      size[blocks] = next;
      tryAll(size, blocks + 1, left - next, s);
    }
  }

  private static void compareWithSearch(int n, int s) {
    for (int worst = 1;; worst++) {
      for (int blocks = 1; blocks <= 12; blocks++) {
        int[] size = new int[blocks];
        if (put(size, blocks - 1, n, s, worst)) {
          due(n, s, worst, figures(size, blocks));
          return;
        }
      }
    }
  }

  /** Puts BLOCKS q down to 0, the least size first, as long as no pair of those that stand goes beyond the WORST. */
  private static boolean put(int[] size, int q, int left, int s, int worst) {
    if (q < 0) {
      return left == 0;
    }
    if (left < q + 1 || left > (q + 1) * Math.min(15, worst)) {
      return false;
    }
    for (int next = 1; next <= Math.min(15, left); next++) {
      size[q] = next;
      if (!stands(size, q, s, worst)) {
        return false;
      }
      if (put(size, q - 1, left - next, s, worst)) {
        return true;
      }
    }
    return false;
  }

  private static boolean stands(int[] size, int q, int s, int worst) {
    int blocks = size.length;
    if (s == 0) {
      return size[q] + (q == 0 ? blocks - 1 : blocks - q) <= worst;
    }
    for (int p = q + 1; p < blocks; p++) {
      if (size[q] + s * (p - q - 1) + size[p] - 1 > worst) {
        return false;
      }
    }
    return size[q] <= worst;
  }

  private static void due(int n, int s, int worst, long figures) {
    CarryNets x = new CarryNets();
    int kind = s == 0 ? 1 : 0;
    DUE.is("sizes " + n + " s " + s + " worst", x.sizes(n, kind, s, 0), worst);
    DUE.is("sizes " + n + " s " + s + " figures", x.sizes(n, kind, s, 1), figures);
    DUE.is("blocks of these", x.blocks(figures, kind, s), worst);
  }

  private static void sizesEdges() {
    CarryNets x = new CarryNets();
    DUE.bad("sizes", x.sizes(0, 0, 1, 0), x.sizes(33, 0, 1, 0), x.sizes(-5, 1, 1, 0), x.sizes(8, 2, 1, 0),
        x.sizes(8, -1, 1, 0), x.sizes(8, 0, 0, 0), x.sizes(8, 0, 10, 0), x.sizes(8, 0, 1, 2), x.sizes(8, 1, 1, -1));
    DUE.is("s is not looked at", x.sizes(16, 1, 0, 1), 344866);
    DUE.is("s is not looked at", x.sizes(16, 1, -9, 0), 6);
  }
}
