/** Promises 14, 15: BEST NETS, all 216 questions compared with all NETS counted state by state. */
public final class BestTest {
  private static final Due DUE = new Due();

  public static void main(String[] args) {
    for (int n = 2; n <= 7; n++) {
      for (int f = 1; f <= 6; f++) {
        for (int d = 1; d <= 6; d++) {
          compare(n, d, f);
        }
      }
    }
    DUE.close();
  }

  private static void compare(int n, int d, int f) {
    CarryNets x = new CarryNets();
    PlainBest best = PlainBest.of(n, d, f);
    String name = "n " + n + " d " + d + " f " + f;
    if (best == null) {
      DUE.is("best " + name, x.best(n, d, f, 0), CarryNets.NONE);
      DUE.is("how many " + name, x.best(n, d, f, 1), CarryNets.NONE);
      DUE.is("made " + name, x.made(n, d, f), CarryNets.NONE);
      DUE.is("no NET " + name, x.count(0), 0);
      return;
    }
    DUE.is("best " + name, x.best(n, d, f, 0), best.cells());
    DUE.is("how many " + name, x.best(n, d, f, 1), best.ways());
    DUE.is("made " + name, x.made(n, d, f), 0);
    DUE.is("PLACES " + name, x.told(0, 0), n);
    DUE.is("DEPTH " + name, x.told(0, 1), best.rows().size());
    DUE.is("CELLS " + name, x.told(0, 2), best.cells());
    DUE.is("WHOLE " + name, x.told(0, 3), 1);
    DUE.is("LOAD " + name, x.told(0, 4) <= f ? 1 : 0, 1);
    for (int r = 0; r < best.rows().size(); r++) {
      int row = 0;
      for (int i = 0; i < n; i++) {
        row |= x.cell(0, r, i, 0) == CarryNets.NONE ? 0 : 1 << i;
      }
      DUE.is("ROW " + r + " " + name, row, best.rows().get(r));
    }
  }
}
