import java.util.Random;

/** Promises 16, 17: the WORST of BLOCKS way by way, and the best sizes compared with all others (s 0 stands for CHOICE). */
public final class BlocksTest {
  private static final Due DUE = new Due();

  public static void main(String[] args) {
    someBlocks();
    for (int n = 1; n <= 32; n++) {
      for (int s = 0; s <= 9; s++) {
        long[] best = PlainBlocks.best(n, s);
        due(n, s, best[0], best[1]);
        if (n <= 16) {
          compareWithAll(n, s);
        }
      }
    }
    DUE.close();
  }

  private static void someBlocks() {
    Random random = new Random(16);
    for (int round = 0; round < 5000; round++) {
      CarryNets x = new CarryNets();
      int[] size = new int[12];
      int blocks = 1 + random.nextInt(12);
      int all = 0;
      for (int q = 0; q < blocks; q++) {
        size[q] = 1 + random.nextInt(round % 2 == 0 ? 15 : 4);
        all += size[q];
      }
      int s = random.nextInt(10);
      int due = all > 32 ? CarryNets.BAD : PlainBlocks.worst(size, blocks, s);
      long figures = PlainBlocks.figures(size, blocks);
      DUE.is("blocks " + Long.toHexString(figures) + " s " + s, x.blocks(figures, s == 0 ? 1 : 0, s), due);
    }
  }

  private static int leastWorst;
  private static int leastBlocks;
  private static long leastFigures;

  private static void compareWithAll(int n, int s) {
    leastWorst = Integer.MAX_VALUE;
    tryAll(new int[12], 0, n, s);
    due(n, s, leastWorst, leastFigures);
  }

  private static void tryAll(int[] size, int blocks, int left, int s) {
    if (left == 0) {
      int worst = PlainBlocks.worst(size, blocks, s);
      long figures = PlainBlocks.figures(size, blocks);
      boolean better = worst != leastWorst ? worst < leastWorst
          : blocks != leastBlocks ? blocks < leastBlocks : figures < leastFigures;
      if (better) {
        leastWorst = worst;
        leastBlocks = blocks;
        leastFigures = figures;
      }
      return;
    }
    for (int next = 1; next <= Math.min(15, left) && blocks < 12; next++) {
      size[blocks] = next;
      tryAll(size, blocks + 1, left - next, s);
    }
  }

  private static void due(int n, int s, long worst, long figures) {
    CarryNets x = new CarryNets();
    int kind = s == 0 ? 1 : 0;
    DUE.is("sizes " + n + " s " + s + " worst", x.sizes(n, kind, s, 0), worst);
    DUE.is("sizes " + n + " s " + s + " figures", x.sizes(n, kind, s, 1), figures);
    DUE.is("blocks of these", x.blocks(figures, kind, s), worst);
  }
}
