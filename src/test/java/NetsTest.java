import java.util.Random;
import java.util.function.Supplier;

/** Promises 6, 8, 9: NETS by LAWS and by texts, what is told of them, their CELLS, compared with the plain form. */
public final class NetsTest {
  private static final Due DUE = new Due();

  public static void main(String[] args) {
    lawsAsTold();
    textsAsTold();
    greatThenSmall();
    DUE.close();
  }

  private static void lawsAsTold() {
    for (int n = 2; n <= 32; n++) {
      for (int law = 0; law < 5; law++) {
        int places = n;
        int by = law;
        compare(PlainNet.byLaw(n, law), n + " by law " + law, () -> {
          CarryNets x = new CarryNets();
          DUE.is("net(" + places + ", " + by + ")", x.net(places, by), 0);
          return x;
        });
      }
    }
  }

  private static void textsAsTold() {
    Random random = new Random(8);
    for (int round = 0; round < 300; round++) {
      PlainNet plain = PlainNet.some(random, 2 + random.nextInt(31), random.nextInt(8));
      if (plain.text().length() <= 240) {
        compare(plain, plain.text(), () -> {
          CarryNets x = new CarryNets();
          DUE.is(plain.text(), Texts.tell(x, plain.text()), 0);
          return x;
        });
      }
    }
  }

  /** Each ROW is asked of an object of its own, as one object is good for 512 calls. */
  private static void compare(PlainNet plain, String name, Supplier<CarryNets> maker) {
    int depth = plain.rows.size();
    for (int r = 0; r < depth; r++) {
      compareRow(plain, r, name + " ROW " + r, maker.get());
    }
    CarryNets x = maker.get();
    int[] told = plain.told();
    for (int what = 0; what < 8; what++) {
      DUE.is(name + " told " + what, x.told(0, what), told[what]);
    }
    int[] last = plain.lows(depth);
    for (int i = 0; i < plain.n; i++) {
      DUE.is(name + " low " + i, x.told(0, 200 + i), last[i]);
    }
    DUE.bad(name, x.told(0, 100 + depth), x.told(0, 200 + plain.n), x.cell(0, depth, 0, 0), x.cell(0, 0, plain.n, 0));
  }

  private static void compareRow(PlainNet plain, int r, String name, CarryNets x) {
    int[] low = plain.lows(r + 1);
    DUE.is(name + " CELLS", x.told(0, 100 + r), plain.rows.get(r).size());
    for (int i = 0; i < plain.n; i++) {
      DUE.is(name + " takes at " + i, x.cell(0, r, i, 0), plain.takes(r, i));
      DUE.is(name + " low " + i, x.cell(0, r, i, 1), low[i]);
      DUE.is(name + " LOAD " + i, x.cell(0, r, i, 2), plain.load(r, i));
    }
  }

  // What is told of a small NET must not depend on the great one looked at before it.
  private static void greatThenSmall() {
    CarryNets x = new CarryNets();
    x.net(32, 2);
    x.net(3, 0);
    for (int what = 0; what < 8; what++) {
      x.told(0, what);
      DUE.is("small told " + what, x.told(1, what), new int[] {3, 2, 2, 1, 1, 2, 1, 1}[what]);
    }
    x.time(0, CarryNets.NONE);
    DUE.is("small time", x.time(1, CarryNets.NONE), 4);
  }
}
