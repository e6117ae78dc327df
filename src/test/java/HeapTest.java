import java.util.Random;

/** Promises 21 to 25: HEIGHTS, products' HEIGHTS, DOWN by both laws. */
public final class HeapTest {
  private static final Due DUE = new Due();

  public static void main(String[] args) {
    heights();
    products();
    someHeaps();
    edges();
    DUE.close();
  }

  /** A HEAP brought down bit by bit: those that come in are kept apart until the ROW is over. */
  private static final class PlainHeap {
    int[] height;
    int threes;
    int twos;
    int lost;

    PlainHeap(int[] height) {
      this.height = height.clone();
    }

    int greatest() {
      int greatest = 0;
      for (int h : height) {
        greatest = Math.max(greatest, h);
      }
      return greatest;
    }

    void down(int law) {
      int[] old = height.clone();
      int[] in = new int[13];
      int[] next = new int[13];
      int t = 2;
      for (int goal : new int[] {2, 3, 4, 6, 9, 13}) {
        t = goal < greatest() ? goal : t;
      }
      for (int c = 0; c < 12; c++) {
        int left = old[c];
        if (law == 0) {
          while (left >= 3) {
            left -= 3;
            join(true, c, in, next);
          }
          if (left == 2 && old[c] > 2) {
            left -= 2;
            join(false, c, in, next);
          }
          next[c] += left;
        } else {
          int tall = left + in[c];
          while (tall > t) {
            boolean two = tall == t + 1;
            tall -= two ? 1 : 2;
            join(!two, c, in, next);
            next[c]--;
          }
          next[c] += tall - in[c];
        }
      }
      for (int c = 0; c < 12; c++) {
        height[c] = next[c] + in[c];
      }
      lost += in[12];
    }

    private void join(boolean three, int c, int[] in, int[] next) {
      threes += three ? 1 : 0;
      twos += three ? 0 : 1;
      next[c]++;
      in[c + 1]++;
    }
  }

  private static void set(CarryNets x, int[] height) {
    for (int c = 0; c < 12; c++) {
      x.height(c, height[c]);
    }
  }

  private static void same(CarryNets x, int[] height) {
    int all = 0;
    int filled = 0;
    int greatest = 0;
    for (int c = 0; c < 12; c++) {
      DUE.is("heap(" + c + ")", x.heap(c), height[c]);
      all += height[c];
      filled += height[c] > 0 ? 1 : 0;
      greatest = Math.max(greatest, height[c]);
    }
    DUE.is("heap(20)", x.heap(20), greatest);
    DUE.is("heap(21)", x.heap(21), all);
    DUE.is("heap(22)", x.heap(22), greatest <= 2 ? 1 : 0);
    DUE.is("heap(23)", x.heap(23), filled);
  }

  private static void heights() {
    CarryNets x = new CarryNets();
    for (int c = 0; c < 12; c++) {
      DUE.is("height", x.height(c, c + 1), 0);
    }
    for (int c = 0; c < 12; c++) {
      DUE.is("height", x.height(c, 12 - c), c + 1);
    }
    same(x, new int[] {12, 11, 10, 9, 8, 7, 6, 5, 4, 3, 2, 1});
    DUE.bad("height", x.height(-1, 0), x.height(12, 0), x.height(0, -1), x.height(0, 13), x.height(Integer.MIN_VALUE, 5));
    same(x, new int[] {12, 11, 10, 9, 8, 7, 6, 5, 4, 3, 2, 1});
    DUE.is("height(0, 0)", x.height(0, 0), 12);
    DUE.is("height(11, 0)", x.height(11, 0), 1);
    same(x, new int[] {0, 11, 10, 9, 8, 7, 6, 5, 4, 3, 2, 0});
  }

  private static void products() {
    CarryNets x = new CarryNets();
    x.height(11, 12);
    for (int p = 1; p <= 6; p++) {
      for (int q = 1; q <= 6; q++) {
        DUE.is("product", x.product(p, q), Math.min(p, q));
        int[] height = new int[12];
        for (int pair = 0; pair < p * q; pair++) {
          height[pair / q + pair % q]++;
        }
        same(x, height);
      }
    }
    DUE.bad("product", x.product(0, 1), x.product(1, 0), x.product(7, 1), x.product(1, 7), x.product(-1, -1));
    DUE.is("the last stays", x.heap(21), 36);
  }

  private static void someHeaps() {
    Random random = new Random(23);
    for (int round = 0; round < 3000; round++) {
      int[] height = new int[12];
      int most = 1 + random.nextInt(13);
      for (int c = 0; c < 12; c++) {
        height[c] = round == 0 ? 12 : random.nextInt(most);
      }
      CarryNets x = new CarryNets();
      set(x, height);
      for (int law = 0; law < 2; law++) {
        compareDowns(x, law, height);
      }
      same(x, height);
      compareDown(x, round % 2, height);
    }
  }

  private static void compareDowns(CarryNets x, int law, int[] height) {
    PlainHeap plain = new PlainHeap(height);
    if (plain.greatest() <= 2) {
      DUE.is("downs when DONE", x.downs(law, 0), CarryNets.STATE);
      return;
    }
    int rows = 0;
    while (plain.greatest() > 2) {
      plain.down(law);
      rows++;
    }
    int[] due = {rows, plain.threes, plain.twos, plain.lost};
    for (int what = 0; what < 4; what++) {
      DUE.is("downs(" + law + ", " + what + ")", x.downs(law, what), due[what]);
    }
  }

  private static void compareDown(CarryNets x, int law, int[] height) {
    PlainHeap plain = new PlainHeap(height);
    while (plain.greatest() > 2) {
      int before = plain.threes;
      plain.down(law);
      DUE.is("down(" + law + ")", x.down(law), plain.threes - before);
      same(x, plain.height);
    }
    DUE.is("down when DONE", x.down(law), CarryNets.STATE);
    same(x, plain.height);
  }

  private static void edges() {
    CarryNets x = new CarryNets();
    DUE.bad("BAD ahead of STATE", x.down(-1), x.down(2), x.downs(2, 0), x.downs(-1, 0), x.downs(0, 4), x.downs(0, -1));
    DUE.bad("heap", x.heap(-1), x.heap(12), x.heap(19), x.heap(24), x.heap(Integer.MIN_VALUE));
    DUE.is("DONE", x.downs(1, 3), CarryNets.STATE);
    x.height(11, 3);
    DUE.is("not DONE", x.heap(22), 0);
    DUE.is("one lost", x.downs(0, 3), 1);
    DUE.is("one lost", x.downs(1, 3), 1);
    DUE.is("late: a two of 3", x.downs(1, 2), 1);
    DUE.is("late: no three", x.downs(1, 1), 0);
    x.height(11, 2);
    DUE.is("2 is DONE", x.down(0), CarryNets.STATE);
  }
}
