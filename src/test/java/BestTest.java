import java.util.ArrayList;
import java.util.HashMap;
import java.util.List;
import java.util.Map;

/** Promises 14, 15: BEST NETS, compared with all NETS counted state by state and none left out. */
public final class BestTest {
  private static final Due DUE = new Due();

  /** The fewest CELLS from a state on, how many NETS have as many, and the least ROWS of these. */
  private record Best(int cells, long ways, List<Integer> rows) {
  }

  public static void main(String[] args) {
    for (int n = 2; n <= 7; n++) {
      for (int f = 1; f <= 6; f++) {
        Map<String, Best> known = new HashMap<>();
        for (int d = 1; d <= 6; d++) {
          compare(n, d, f, known);
        }
      }
    }
    edges();
    madeOrFull();
    DUE.close();
  }

  private static void compare(int n, int d, int f, Map<String, Best> known) {
    CarryNets x = new CarryNets();
    int[] low = new int[n];
    for (int i = 0; i < n; i++) {
      low[i] = i;
    }
    Best best = best(low, d, f, known);
    String name = "n " + n + " d " + d + " f " + f;
    if (best == null) {
      DUE.is("best " + name, x.best(n, d, f, 0), CarryNets.NONE);
      DUE.is("how many " + name, x.best(n, d, f, 1), CarryNets.NONE);
      DUE.is("made " + name, x.made(n, d, f), CarryNets.NONE);
      DUE.is("no NET " + name, x.count(0), 0);
      return;
    }
    DUE.is("best " + name, x.best(n, d, f, 0), best.cells);
    DUE.is("how many " + name, x.best(n, d, f, 1), best.ways);
    DUE.is("made " + name, x.made(n, d, f), 0);
    DUE.is("PLACES " + name, x.told(0, 0), n);
    DUE.is("DEPTH " + name, x.told(0, 1), best.rows.size());
    DUE.is("CELLS " + name, x.told(0, 2), best.cells);
    DUE.is("WHOLE " + name, x.told(0, 3), 1);
    DUE.is("LOAD " + name, x.told(0, 4) <= f ? 1 : 0, 1);
    for (int r = 0; r < best.rows.size(); r++) {
      int row = 0;
      for (int i = 0; i < n; i++) {
        row |= x.cell(0, r, i, 0) == CarryNets.NONE ? 0 : 1 << i;
      }
      DUE.is("ROW " + r + " " + name, row, best.rows.get(r));
    }
  }

  private static Best best(int[] low, int rows, int f, Map<String, Best> known) {
    int open = 0;
    StringBuilder key = new StringBuilder().append(rows);
    for (int i = 0; i < low.length; i++) {
      open |= low[i] > 0 ? 1 << i : 0;
      key.append(' ').append(low[i]);
    }
    if (open == 0) {
      return new Best(0, 1, List.of());
    }
    if (rows == 0) {
      return null;
    }
    if (known.containsKey(key.toString())) {
      return known.get(key.toString());
    }
    Best best = null;
    for (int row = 1; row <= open; row++) {
      if ((row & ~open) == 0 && fits(low, row, f)) {
        Best rest = best(after(low, row), rows - 1, f, known);
        int cells = rest == null ? 0 : rest.cells + Integer.bitCount(row);
        if (rest != null && (best == null || cells < best.cells)) {
          List<Integer> all = new ArrayList<>(List.of(row));
          all.addAll(rest.rows);
          best = new Best(cells, rest.ways, all);
        } else if (rest != null && cells == best.cells) {
          best = new Best(cells, best.ways + rest.ways, best.rows);
        }
      }
    }
    known.put(key.toString(), best);
    return best;
  }

  private static boolean fits(int[] low, int row, int f) {
    int[] load = new int[low.length];
    for (int i = 0; i < low.length; i++) {
      if ((row >> i & 1) == 1 && ++load[low[i] - 1] > f) {
        return false;
      }
    }
    return true;
  }

  private static int[] after(int[] low, int row) {
    int[] next = low.clone();
    for (int i = 0; i < low.length; i++) {
      if ((row >> i & 1) == 1) {
        next[i] = low[low[i] - 1];
      }
    }
    return next;
  }

  private static void edges() {
    CarryNets x = new CarryNets();
    DUE.bad("best", x.best(1, 1, 1, 0), x.best(8, 3, 1, 0), x.best(2, 0, 1, 0), x.best(2, 7, 1, 0), x.best(2, 1, 0, 0),
        x.best(2, 1, 7, 0), x.best(2, 1, 1, 2), x.best(2, 1, 1, -1), x.best(7, 1, 1, 2), x.best(Integer.MIN_VALUE, 1, 1, 0));
    DUE.bad("made", x.made(1, 1, 1), x.made(8, 6, 6), x.made(7, 0, 6), x.made(7, 7, 6), x.made(7, 6, 0), x.made(7, 6, 7));
    DUE.is("count(0)", x.count(0), 0);
  }

  private static void madeOrFull() {
    CarryNets x = new CarryNets();
    for (int k = 0; k < 8; k++) {
      DUE.is("made", x.made(2 + k % 6, 6, 1 + k % 3), k);
    }
    DUE.is("made beyond", x.made(4, 2, 2), CarryNets.FULL);
    DUE.is("NONE ahead of FULL, as promise 15 tells them", x.made(7, 2, 6), CarryNets.NONE);
    DUE.bad("BAD ahead of FULL", x.made(8, 2, 6));
    DUE.is("best when FULL", x.best(4, 2, 2, 0), 4);
    DUE.is("drop()", x.drop(), 7);
    DUE.is("made again", x.made(4, 2, 2), 7);
  }
}
