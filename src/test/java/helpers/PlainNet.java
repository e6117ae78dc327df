import java.util.ArrayList;
import java.util.List;
import java.util.TreeSet;

/** A NET in the plainest form, straight from the document's words. */
final class PlainNet {
  final int n;
  final List<TreeSet<Integer>> rows = new ArrayList<>();

  PlainNet(int n) {
    this.n = n;
  }

  void add(TreeSet<Integer> row) {
    int[] low = lows(rows.size());
    row.removeIf(i -> low[i] == 0);
    if (!row.isEmpty()) {
      rows.add(row);
    }
  }

  /** low(i) behind the first r ROWS. */
  int[] lows(int r) {
    int[] low = new int[n];
    for (int i = 0; i < n; i++) {
      low[i] = i;
    }
    for (int k = 0; k < r; k++) {
      int[] next = low.clone();
      for (int i : rows.get(k)) {
        next[i] = low[low[i] - 1];
      }
      low = next;
    }
    return low;
  }

  /** What the CELL at i of ROW r takes; NONE without one. */
  int takes(int r, int i) {
    return rows.get(r).contains(i) ? lows(r)[i] - 1 : CarryNets.NONE;
  }

  int load(int r, int j) {
    int load = 0;
    for (int i : rows.get(r)) {
      load += takes(r, i) == j ? 1 : 0;
    }
    return load;
  }

  boolean whole() {
    for (int low : lows(rows.size())) {
      if (low != 0) {
        return false;
      }
    }
    return true;
  }

  int tracks(int r) {
    int most = 0;
    for (int p = 0; p + 1 < n; p++) {
      int over = 0;
      for (int i : rows.get(r)) {
        over += takes(r, i) <= p && i >= p + 1 ? 1 : 0;
      }
      most = Math.max(most, over);
    }
    return most;
  }

  /** PLACES, DEPTH, CELLS, whether it is WHOLE, the greatest LOAD, all WAYS, the most TRACKS, the longest WAY. */
  int[] told() {
    int[] told = {n, rows.size(), 0, whole() ? 1 : 0, 0, 0, 0, 0};
    for (int r = 0; r < rows.size(); r++) {
      told[2] += rows.get(r).size();
      told[6] = Math.max(told[6], tracks(r));
      for (int i : rows.get(r)) {
        int j = takes(r, i);
        told[4] = Math.max(told[4], load(r, j));
        told[5] += i - j;
        told[7] = Math.max(told[7], i - j);
      }
    }
    return told;
  }

  int[] times(int c, int f, int[] starts) {
    int[] time = java.util.Arrays.copyOf(starts, n);
    for (int r = 0; r < rows.size(); r++) {
      int[] next = time.clone();
      for (int i : rows.get(r)) {
        int j = takes(r, i);
        next[i] = Math.max(time[i], time[j]) + c + f * (load(r, j) - 1);
      }
      time = next;
    }
    return time;
  }

  /** Carries 1 to n as bits 0 to n - 1, led through the NET's CELLS. */
  long carries(int a, int b, boolean in) {
    boolean[] makes = new boolean[n];
    boolean[] hands = new boolean[n];
    for (int i = 0; i < n; i++) {
      int ones = (a >>> i & 1) + (b >>> i & 1);
      makes[i] = ones == 2;
      hands[i] = ones == 1;
    }
    for (int r = 0; r < rows.size(); r++) {
      boolean[] made = makes.clone();
      boolean[] handed = hands.clone();
      for (int i : rows.get(r)) {
        int j = takes(r, i);
        made[i] = makes[i] || hands[i] && makes[j];
        handed[i] = hands[i] && hands[j];
      }
      makes = made;
      hands = handed;
    }
    long carries = 0;
    for (int i = 0; i < n; i++) {
      carries |= makes[i] || hands[i] && in ? 1L << i : 0;
    }
    return carries;
  }

  long sum(int a, int b, boolean in) {
    long into = carries(a, b, in) << 1 | (in ? 1 : 0);
    return (a ^ b ^ into) & (1L << n) - 1;
  }

  String text() {
    StringBuilder text = new StringBuilder().append(n).append(':');
    for (TreeSet<Integer> row : rows) {
      String sign = "";
      for (int i : row.descendingSet()) {
        text.append(sign).append(i);
        sign = ",";
      }
      text.append(';');
    }
    return text.toString();
  }

  static PlainNet byLaw(int n, int law) {
    PlainNet net = new PlainNet(n);
    switch (law) {
      case 0:
        for (int i = 1; i < n; i++) {
          net.add(new TreeSet<>(List.of(i)));
        }
        break;
      case 1:
        for (int power = 1; power < n; power *= 2) {
          int p = power;
          net.add(places(n, i -> i / p % 2 == 1));
        }
        break;
      case 2:
        for (int power = 1; power < n; power *= 2) {
          int p = power;
          net.add(places(n, i -> i >= p));
        }
        break;
      case 3:
        int power = 1;
        for (; 2 * power <= n; power *= 2) {
          int p = power;
          net.add(places(n, i -> (i + 1) % (2 * p) == 0));
        }
        for (power /= 2; power >= 1; power /= 2) {
          int p = power;
          net.add(places(n, i -> (i + 1) % p == 0 && (i + 1) / p % 2 == 1 && i >= 2 * p));
        }
        break;
      default:
        net.add(places(n, i -> i % 2 == 1));
        for (int q = 2; q < n; q *= 2) {
          int p = q;
          net.add(places(n, i -> i % 2 == 1 && i >= p));
        }
        net.add(places(n, i -> i % 2 == 0 && i >= 2));
    }
    return net;
  }

  static TreeSet<Integer> places(int n, java.util.function.IntPredicate has) {
    TreeSet<Integer> row = new TreeSet<>();
    for (int i = 0; i < n; i++) {
      if (has.test(i)) {
        row.add(i);
      }
    }
    return row;
  }

  /** Some NET, WHOLE or not, of as many ROWS at most. */
  static PlainNet some(java.util.Random random, int n, int mostRows) {
    PlainNet net = new PlainNet(n);
    for (int r = 0; r < mostRows; r++) {
      net.add(places(n, i -> random.nextInt(3) == 0));
    }
    return net;
  }
}
