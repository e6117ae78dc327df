import java.util.ArrayList;
import java.util.HashMap;
import java.util.List;
import java.util.Map;

/** The fewest CELLS from a state on, how many NETS have as many, and the least ROWS of these: none is left out. */
record PlainBest(int cells, long ways, List<Integer> rows) {
  private static final Map<String, PlainBest> KNOWN = new HashMap<>();

  /** Of n PLACES, at most d ROWS, LOADS of at most f; null: there is none. */
  static PlainBest of(int n, int d, int f) {
    int[] low = new int[n];
    for (int i = 0; i < n; i++) {
      low[i] = i;
    }
    return from(low, d, f);
  }

  PlainNet net(int n) {
    PlainNet net = new PlainNet(n);
    for (int row : rows) {
      net.add(PlainNet.places(n, i -> (row >> i & 1) == 1));
    }
    return net;
  }

  private static PlainBest from(int[] low, int rows, int f) {
    int open = 0;
    StringBuilder key = new StringBuilder().append(f).append(' ').append(rows);
    for (int i = 0; i < low.length; i++) {
      open |= low[i] > 0 ? 1 << i : 0;
      key.append(' ').append(low[i]);
    }
    if (open == 0) {
      return new PlainBest(0, 1, List.of());
    }
    if (rows == 0) {
      return null;
    }
    if (KNOWN.containsKey(key.toString())) {
      return KNOWN.get(key.toString());
    }
    PlainBest best = null;
    for (int row = 1; row <= open; row++) {
      if ((row & ~open) == 0 && fits(low, row, f)) {
        best = better(best, row, from(after(low, row), rows - 1, f));
      }
    }
    KNOWN.put(key.toString(), best);
    return best;
  }

  private static PlainBest better(PlainBest best, int row, PlainBest rest) {
    if (rest == null) {
      return best;
    }
    int cells = rest.cells + Integer.bitCount(row);
    if (best == null || cells < best.cells) {
      List<Integer> all = new ArrayList<>(List.of(row));
      all.addAll(rest.rows);
      return new PlainBest(cells, rest.ways, all);
    }
    return cells > best.cells ? best : new PlainBest(cells, best.ways + rest.ways, best.rows);
  }

  private static boolean fits(int[] low, int row, int f) {
    int[] load = new int[low.length];
    for (int i = 0; i < low.length; i++) {
      if ((row >> i & 1) == 1 && ++load[low[i] - 1] > f) {
        return false;
      }
    }
    return true;
  }

  private static int[] after(int[] low, int row) {
    int[] next = low.clone();
    for (int i = 0; i < low.length; i++) {
      if ((row >> i & 1) == 1) {
        next[i] = low[low[i] - 1];
      }
    }
    return next;
  }
}
