import java.util.Random;

/** Promises 1, 6, 7, 8, 9: NETS by LAWS and by texts, what is told of them, their CELLS. */
public final class NetsTest {
  private static final Due DUE = new Due();

  public static void main(String[] args) {
    aNewObject();
    lawsAsTold();
    textsAsTold();
    edges();
    fullAndDrop();
    greatThenSmall();
    DUE.close();
  }

  private static void aNewObject() {
    CarryNets x = new CarryNets();
    DUE.is("count(0)", x.count(0), 0);
    DUE.is("count(1)", x.count(1), 2);
    DUE.is("count(2)", x.count(2), 1);
    DUE.is("count(3)", x.count(3), 0);
    DUE.is("count(4)", x.count(4), CarryNets.NONE);
    DUE.is("fault()", x.fault(), 0);
    DUE.is("drop()", x.drop(), CarryNets.NONE);
    DUE.is("heap(20)", x.heap(20), 0);
    DUE.is("heap(23)", x.heap(23), 0);
    for (int k = 0; k < 4; k++) {
      DUE.is("lay", x.lay(k, 0, 0), -11);
    }
    for (int i = 0; i < 32; i++) {
      DUE.is("start", x.start(i, 0), 0);
    }
    DUE.bad("no NETS", x.told(0, 0), x.cell(0, 0, 0, 0), x.time(0, 0), x.sum(0, 0, 0, false, 0), x.times(0, 0, 0, 1));
  }

  private static void lawsAsTold() {
    CarryNets x = new CarryNets();
    for (int n = 2; n <= 32; n++) {
      for (int law = 0; law < 5; law++) {
        DUE.is("net(" + n + ", " + law + ")", x.net(n, law), 0);
        compare(x, 0, PlainNet.byLaw(n, law), n + " by law " + law);
        DUE.is("drop()", x.drop(), 0);
      }
    }
  }

  private static void textsAsTold() {
    Random random = new Random(8);
    for (int round = 0; round < 300; round++) {
      CarryNets x = new CarryNets();
      PlainNet plain = PlainNet.some(random, 2 + random.nextInt(31), random.nextInt(8));
      if (plain.text().length() <= 240) {
        DUE.is(plain.text(), Texts.tell(x, plain.text()), 0);
        compare(x, 0, plain, plain.text());
      }
    }
  }

  private static void compare(CarryNets x, int k, PlainNet plain, String name) {
    int depth = plain.rows.size();
    int[] last = plain.lows(depth);
    int cells = 0;
    int greatestLoad = 0;
    int ways = 0;
    int tracks = 0;
    int longest = 0;
    for (int r = 0; r < depth; r++) {
      int[] low = plain.lows(r + 1);
      DUE.is(name + " cells of row " + r, x.told(k, 100 + r), plain.rows.get(r).size());
      tracks = Math.max(tracks, plain.tracks(r));
      for (int i = 0; i < plain.n; i++) {
        int j = plain.takes(r, i);
        DUE.is(name + " takes " + r + " " + i, x.cell(k, r, i, 0), j);
        DUE.is(name + " low " + r + " " + i, x.cell(k, r, i, 1), low[i]);
        DUE.is(name + " load " + r + " " + i, x.cell(k, r, i, 2), plain.load(r, i));
        greatestLoad = Math.max(greatestLoad, plain.load(r, i));
        if (j != CarryNets.NONE) {
          cells++;
          ways += i - j;
          longest = Math.max(longest, i - j);
        }
      }
    }
    int[] due = {plain.n, depth, cells, plain.whole() ? 1 : 0, greatestLoad, ways, tracks, longest};
    for (int what = 0; what < 8; what++) {
      DUE.is(name + " told " + what, x.told(k, what), due[what]);
    }
    for (int i = 0; i < plain.n; i++) {
      DUE.is(name + " low " + i, x.told(k, 200 + i), last[i]);
    }
    DUE.bad(name, x.told(k, 100 + depth), x.told(k, 200 + plain.n), x.cell(k, depth, 0, 0), x.cell(k, 0, plain.n, 0));
  }

  private static void edges() {
    CarryNets x = new CarryNets();
    DUE.bad("net", x.net(1, 0), x.net(33, 0), x.net(2, -1), x.net(2, 5), x.net(-1, 0), x.net(Integer.MIN_VALUE, 1));
    DUE.is("net(4, 1)", x.net(4, 1), 0);
    DUE.bad("told", x.told(0, -1), x.told(0, 8), x.told(0, 99), x.told(0, 102), x.told(0, 199), x.told(0, 204),
        x.told(1, 0), x.told(-1, 0), x.told(0, Integer.MAX_VALUE), x.told(Integer.MIN_VALUE, 0));
    DUE.bad("cell", x.cell(1, 0, 0, 0), x.cell(0, -1, 0, 0), x.cell(0, 2, 0, 0), x.cell(0, 0, -1, 0),
        x.cell(0, 0, 4, 0), x.cell(0, 0, 0, 3), x.cell(0, 0, 0, -1), x.cell(-1, 0, 0, 0));
    DUE.is("cell at 0", x.cell(0, 0, 0, 0), CarryNets.NONE);
  }

  private static void fullAndDrop() {
    CarryNets x = new CarryNets();
    for (int k = 0; k < 8; k++) {
      DUE.is("net", x.net(2 + k, k % 5), k);
    }
    DUE.is("the ninth", x.net(2, 0), CarryNets.FULL);
    DUE.bad("BAD ahead of FULL", x.net(1, 0), x.net(2, 5));
    DUE.is("count(0)", x.count(0), 8);
    for (int k = 7; k >= 0; k--) {
      DUE.is("places", x.told(k, 0), 2 + k);
      DUE.is("drop()", x.drop(), k);
      DUE.bad("gone", x.told(k, 0));
    }
    DUE.is("drop()", x.drop(), CarryNets.NONE);
    DUE.is("net again", x.net(3, 0), 0);
    DUE.is("its DEPTH", x.told(0, 1), 2);
  }

  // What is told of a small NET must not depend on the great one looked at before it.
  private static void greatThenSmall() {
    CarryNets x = new CarryNets();
    x.net(32, 2);
    x.net(3, 0);
    for (int what = 0; what < 8; what++) {
      x.told(0, what);
      DUE.is("small told " + what, x.told(1, what), new int[] {3, 2, 2, 1, 1, 2, 1, 1}[what]);
    }
    x.time(0, CarryNets.NONE);
    DUE.is("small time", x.time(1, CarryNets.NONE), 4);
  }
}
