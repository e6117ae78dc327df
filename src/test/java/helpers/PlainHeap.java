/** A HEAP brought down bit by bit: those that come in are kept apart until the ROW is over. */
final class PlainHeap {
  int[] height;
  int threes;
  int twos;
  int lost;

  PlainHeap(int[] height) {
    this.height = height.clone();
  }

  static PlainHeap ofProduct(int p, int q) {
    int[] height = new int[12];
    for (int pair = 0; pair < p * q; pair++) {
      height[pair / q + pair % q]++;
    }
    return new PlainHeap(height);
  }

  int greatest() {
    int greatest = 0;
    for (int h : height) {
      greatest = Math.max(greatest, h);
    }
    return greatest;
  }

  boolean done() {
    return greatest() <= 2;
  }

  int allBits() {
    int all = 0;
    for (int h : height) {
      all += h;
    }
    return all;
  }

  int filled() {
    int filled = 0;
    for (int h : height) {
      filled += h > 0 ? 1 : 0;
    }
    return filled;
  }

  void down(int law) {
    int[] old = height.clone();
    int[] in = new int[13];
    int[] next = new int[13];
    int t = goal();
    for (int c = 0; c < 12; c++) {
      int left = old[c];
      if (law == 0) {
        while (left >= 3) {
          left -= 3;
          join(true, c, in, next);
        }
        if (left == 2 && old[c] > 2) {
          left -= 2;
          join(false, c, in, next);
        }
        next[c] += left;
      } else {
        int tall = left + in[c];
        while (tall > t) {
          boolean two = tall == t + 1;
          tall -= two ? 1 : 2;
          join(!two, c, in, next);
          next[c]--;
        }
        next[c] += tall - in[c];
      }
    }
    for (int c = 0; c < 12; c++) {
      height[c] = next[c] + in[c];
    }
    lost += in[12];
  }

  /** ROWS, threes, twos and bits lost until a HEAP is DONE. */
  static int[] downs(int[] height, int law) {
    PlainHeap heap = new PlainHeap(height);
    int rows = 0;
    while (!heap.done()) {
      heap.down(law);
      rows++;
    }
    return new int[] {rows, heap.threes, heap.twos, heap.lost};
  }

  private int goal() {
    int t = 2;
    for (int goal : new int[] {2, 3, 4, 6, 9, 13}) {
      t = goal < greatest() ? goal : t;
    }
    return t;
  }

  private void join(boolean three, int c, int[] in, int[] next) {
    threes += three ? 1 : 0;
    twos += three ? 0 : 1;
    next[c]++;
    in[c + 1]++;
  }
}
