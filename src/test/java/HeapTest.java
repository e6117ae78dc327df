import java.util.Random;

/** Promises 21 to 25: HEIGHTS, products' HEIGHTS, DOWN by both laws, compared with the plain form. */
public final class HeapTest {
  private static final Due DUE = new Due();

  public static void main(String[] args) {
    products();
    someHeaps();
    DUE.close();
  }

  private static void same(CarryNets x, PlainHeap plain) {
    for (int c = 0; c < 12; c++) {
      DUE.is("heap(" + c + ")", x.heap(c), plain.height[c]);
    }
    DUE.is("heap(20)", x.heap(20), plain.greatest());
    DUE.is("heap(21)", x.heap(21), plain.allBits());
    DUE.is("heap(22)", x.heap(22), plain.done() ? 1 : 0);
    DUE.is("heap(23)", x.heap(23), plain.filled());
  }

  private static void products() {
    for (int p = 1; p <= 6; p++) {
      CarryNets x = new CarryNets();
      x.height(11, 12);
      for (int q = 1; q <= 6; q++) {
        DUE.is("product(" + p + ", " + q + ")", x.product(p, q), Math.min(p, q));
        same(x, PlainHeap.ofProduct(p, q));
      }
    }
  }

  private static void someHeaps() {
    Random random = new Random(23);
    for (int round = 0; round < 3000; round++) {
      int most = 1 + random.nextInt(13);
      int[] height = random.ints(12, 0, most).toArray();
      CarryNets x = new CarryNets();
      for (int c = 0; c < 12; c++) {
        DUE.is("height", x.height(c, height[c]), 0);
      }
      for (int law = 0; law < 2; law++) {
        compareDowns(x, law, height);
      }
      compareDown(x, round % 2, new PlainHeap(height));
    }
  }

  private static void compareDowns(CarryNets x, int law, int[] height) {
    boolean done = new PlainHeap(height).done();
    int[] due = PlainHeap.downs(height, law);
    for (int what = 0; what < 4; what++) {
      DUE.is("downs(" + law + ", " + what + ")", x.downs(law, what), done ? CarryNets.STATE : due[what]);
    }
  }

  private static void compareDown(CarryNets x, int law, PlainHeap plain) {
    same(x, plain);
    while (!plain.done()) {
      int before = plain.threes;
      plain.down(law);
      DUE.is("down(" + law + ")", x.down(law), plain.threes - before);
      same(x, plain);
    }
    DUE.is("down when DONE", x.down(law), CarryNets.STATE);
    same(x, plain);
  }
}
