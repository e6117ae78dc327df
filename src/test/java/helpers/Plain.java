import java.util.ArrayList;
import java.util.Arrays;
import java.util.HashMap;
import java.util.List;
import java.util.Map;

/** The whole face of the document once more, in its plainest form, to compare any run of calls with. */
final class Plain {
  static final int BAD = -1, STATE = -2, FULL = -3, NONE = -4;
  private static final Map<Integer, long[]> BEST_BLOCKS = new HashMap<>();

  private final List<PlainNet> nets = new ArrayList<>();
  private String tape = "";
  private int fault = 0;
  private int c = 2;
  private int f = 1;
  private final int[] starts = new int[32];
  private PlainHeap heap = new PlainHeap(new int[12]);
  private final int[][] sheets = new int[4][];
  private final int[] lanes = new int[4];

  private static boolean within(int v, int least, int most) {
    return v >= least && v <= most;
  }

  private int keep(PlainNet net) {
    nets.add(net);
    return nets.size() - 1;
  }

  private PlainNet known(int k) {
    return within(k, 0, nets.size() - 1) ? nets.get(k) : null;
  }

  int feed(long v) {
    if (tape.length() > 232) {
      return FULL;
    }
    for (int b = 7; b >= 0; b--) {
      tape += (char) (v >> 8 * b & 255);
    }
    return tape.length();
  }

  int end(int n) {
    if (!within(n, 0, tape.length())) {
      return BAD;
    }
    int had = tape.length();
    tape = tape.substring(0, n);
    return had;
  }

  int text() {
    if (nets.size() == 8) {
      return FULL;
    }
    PlainText told = PlainText.read(tape);
    tape = "";
    fault = told.fault();
    return fault == 0 ? keep(told.net()) : -10 - told.place();
  }

  int fault() {
    return fault;
  }

  int net(int n, int law) {
    if (!within(n, 2, 32) || !within(law, 0, 4)) {
      return BAD;
    }
    return nets.size() == 8 ? FULL : keep(PlainNet.byLaw(n, law));
  }

  int drop() {
    if (nets.isEmpty()) {
      return NONE;
    }
    nets.remove(nets.size() - 1);
    return nets.size();
  }

  int told(int k, int what) {
    PlainNet net = known(k);
    if (net == null) {
      return BAD;
    }
    int depth = net.rows.size();
    if (within(what, 100, 99 + depth)) {
      return net.rows.get(what - 100).size();
    }
    if (within(what, 200, 199 + net.n)) {
      return net.lows(depth)[what - 200];
    }
    return within(what, 0, 7) ? net.told()[what] : BAD;
  }

  int cell(int k, int r, int i, int what) {
    PlainNet net = known(k);
    if (net == null || !within(r, 0, net.rows.size() - 1) || !within(i, 0, net.n - 1) || !within(what, 0, 2)) {
      return BAD;
    }
    return what == 0 ? net.takes(r, i) : what == 1 ? net.lows(r + 1)[i] : net.load(r, i);
  }

  int pace(int newC, int newF) {
    if (!within(newC, 1, 9) || !within(newF, 0, 9)) {
      return BAD;
    }
    c = newC;
    f = newF;
    return 1;
  }

  int start(int i, int t) {
    if (!within(i, 0, 31) || !within(t, 0, 99)) {
      return BAD;
    }
    int was = starts[i];
    starts[i] = t;
    return was;
  }

  int time(int k, int i) {
    PlainNet net = known(k);
    if (net == null || i != NONE && !within(i, 0, net.n - 1)) {
      return BAD;
    }
    int[] times = net.times(c, f, starts);
    return i == NONE ? Arrays.stream(times).max().getAsInt() : times[i];
  }

  long sum(int k, int a, int b, boolean in, int what) {
    PlainNet net = known(k);
    if (net == null || !within(what, 0, 1)) {
      return BAD;
    }
    if (!net.whole()) {
      return STATE;
    }
    return what == 0 ? net.sum(a, b, in) : net.carries(a, b, in);
  }

  int best(int n, int d, int most, int what) {
    if (!within(n, 2, 7) || !within(d, 1, 6) || !within(most, 1, 6) || !within(what, 0, 1)) {
      return BAD;
    }
    PlainBest best = PlainBest.of(n, d, most);
    return best == null ? NONE : what == 0 ? best.cells() : (int) best.ways();
  }

  int made(int n, int d, int most) {
    if (!within(n, 2, 7) || !within(d, 1, 6) || !within(most, 1, 6)) {
      return BAD;
    }
    PlainBest best = PlainBest.of(n, d, most);
    return best == null ? NONE : nets.size() == 8 ? FULL : keep(best.net(n));
  }

  int blocks(long sizes, int kind, int s) {
    if (!within(kind, 0, 1) || kind == 0 && !within(s, 1, 9)) {
      return BAD;
    }
    return PlainBlocks.worstOf(sizes, kind == 1 ? 0 : s);
  }

  long sizes(int n, int kind, int s, int what) {
    if (!within(n, 1, 32) || !within(kind, 0, 1) || kind == 0 && !within(s, 1, 9) || !within(what, 0, 1)) {
      return BAD;
    }
    int skip = kind == 1 ? 0 : s;
    return BEST_BLOCKS.computeIfAbsent(10 * n + skip, key -> PlainBlocks.best(n, skip))[what];
  }

  int run(int n, int a, int b) {
    boolean told = within(n, 1, 31) && within(a, 0, (int) ((1L << n) - 1)) && within(b, 0, (int) ((1L << n) - 1));
    return told ? PlainRuns.run(n, a, b) : BAD;
  }

  long runs(int n, int k) {
    return within(n, 1, 31) && within(k, 0, n) ? PlainRuns.runs(n, k) : BAD;
  }

  long mean(int n, int what) {
    return within(n, 1, 15) && within(what, 0, 1) ? PlainRuns.mean(n)[what] : BAD;
  }

  int height(int column, int h) {
    if (!within(column, 0, 11) || !within(h, 0, 12)) {
      return BAD;
    }
    int was = heap.height[column];
    heap.height[column] = h;
    return was;
  }

  int product(int p, int q) {
    if (!within(p, 1, 6) || !within(q, 1, 6)) {
      return BAD;
    }
    heap = PlainHeap.ofProduct(p, q);
    return heap.greatest();
  }

  int down(int law) {
    if (!within(law, 0, 1)) {
      return BAD;
    }
    if (heap.done()) {
      return STATE;
    }
    int before = heap.threes;
    heap.down(law);
    return heap.threes - before;
  }

  int downs(int law, int what) {
    if (!within(law, 0, 1) || !within(what, 0, 3)) {
      return BAD;
    }
    return heap.done() ? STATE : PlainHeap.downs(heap.height, law)[what];
  }

  int heap(int what) {
    switch (what) {
      case 20: return heap.greatest();
      case 21: return heap.allBits();
      case 22: return heap.done() ? 1 : 0;
      case 23: return heap.filled();
      default: return within(what, 0, 11) ? heap.height[what] : BAD;
    }
  }

  int digit(int v, int k) {
    return within(v, 0, 65535) && within(k, 0, 8) ? digits(v)[k] : -10;
  }

  /** As the document tells them, by bits. */
  private static int[] digits(int v) {
    int[] digits = new int[9];
    for (int k = 0; k < 9; k++) {
      int behind = k == 0 ? 0 : v / power(2 * k - 1) % 2;
      digits[k] = behind + v / power(2 * k) % 2 - 2 * (v / power(2 * k + 1) % 2);
    }
    return digits;
  }

  private static int power(int bit) {
    return 1 << bit;
  }

  long times(int v, int w, int k, int what) {
    if (!within(v, 0, 65535) || !within(what, 0, 1)) {
      return BAD;
    }
    if (what == 0) {
      return Arrays.stream(digits(v)).filter(digit -> digit != 0).count();
    }
    PlainNet net = known(k);
    if (net == null || !within(w, 0, 32767)) {
      return BAD;
    }
    if (net.n != 32 || !net.whole()) {
      return STATE;
    }
    long sum = 0;
    for (int place = 0; place < 9; place++) {
      sum = net.sum((int) sum, w * digits(v)[place] * power(2 * place), false);
    }
    return sum;
  }

  int sheet(int k, int lane, int n) {
    if (!within(k, 0, 3) || !within(lane, 0, 2) || n > 60) {
      return BAD;
    }
    if (n < 0) {
      return -14;
    }
    sheets[k] = new int[n];
    lanes[k] = lane;
    return 1;
  }

  int lay(int k, int i, int v) {
    if (!within(k, 0, 3)) {
      return BAD;
    }
    if (sheets[k] == null) {
      return -11;
    }
    if (!within(i, 0, sheets[k].length - 1)) {
      return -12;
    }
    int above = 32 - (8 << lanes[k]);
    sheets[k][i] = v << above >> above;
    return 1;
  }

  int heights(int k, int lane, int from, int n) {
    if (!within(k, 0, 3) || !within(lane, 0, 2) || !within(n, 1, 12)) {
      return BAD;
    }
    if (sheets[k] == null) {
      return -11;
    }
    if (lanes[k] != lane) {
      return -13;
    }
    int[] height = new int[12];
    for (int i = 0; i < n; i++) {
      long at = (long) from + i;
      if (at < 0 || at >= sheets[k].length) {
        return -12;
      }
      height[i] = sheets[k][(int) at];
      if (!within(height[i], 0, 12)) {
        return -20 - i;
      }
    }
    heap = new PlainHeap(height);
    return heap.allBits();
  }

  int count(int what) {
    switch (what) {
      case 0: return nets.size();
      case 1: return c;
      case 2: return f;
      case 3: return tape.length();
      case 4: return sheets[0] == null ? NONE : sheets[0].length;
      default: return BAD;
    }
  }
}
