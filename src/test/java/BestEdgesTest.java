/** The edges of promises 14 and 15 (best, made) and of BEST NETS in the terms, sentence by sentence. */
public final class BestEdgesTest {
  private static final Edges EDGES = new Edges();
  private static final int BAD = CarryNets.BAD, FULL = CarryNets.FULL, NONE = CarryNets.NONE;

  public static void main(String[] args) {
    bestBounds();
    bestNone();
    leastAndGreatest();
    loadsAtTheBound();
    madeBounds();
    madeNone();
    madeFull();
    leastRows();
    EDGES.close();
  }

  // "n (2 to 7) PLACES with at most d ROWS (1 to 6) and LOADS of at most f (1 to 6)" "BAD"
  private static void bestBounds() {
    EDGES.bad("best", x -> x.best(1, 1, 1, 0), x -> x.best(8, 6, 6, 0), x -> x.best(2, 0, 1, 0), x -> x.best(2, 7, 1, 0),
        x -> x.best(2, 1, 0, 0), x -> x.best(2, 1, 7, 0), x -> x.best(2, 1, 1, -1), x -> x.best(2, 1, 1, 2),
        x -> x.best(Integer.MIN_VALUE, 1, 1, 0), x -> x.best(Integer.MAX_VALUE, 1, 1, 0),
        x -> x.best(2, Integer.MIN_VALUE, 1, 0), x -> x.best(2, Integer.MAX_VALUE, 1, 0),
        x -> x.best(2, 1, Integer.MIN_VALUE, 0), x -> x.best(2, 1, Integer.MAX_VALUE, 0),
        x -> x.best(2, 1, 1, Integer.MIN_VALUE), x -> x.best(2, 1, 1, Integer.MAX_VALUE));
    EDGES.bad("BAD ahead of NONE", x -> x.best(7, 1, 6, 2), x -> x.best(7, 1, 6, -1), x -> x.best(7, 1, 7, 0));
  }

  // "NONE: there is none such.": one ROW can but halve what is below a PLACE.
  private static void bestNone() {
    EDGES.leaves("3 PLACES in 1 ROW", NONE, x -> x.best(3, 1, 6, 0));
    EDGES.leaves("how many", NONE, x -> x.best(3, 1, 6, 1));
    EDGES.leaves("5 PLACES in 2 ROWS", NONE, x -> x.best(5, 2, 6, 0));
    EDGES.leaves("7 PLACES in 2 ROWS", NONE, x -> x.best(7, 2, 6, 1));
    EDGES.leaves("2 PLACES in 1 ROW", 1, x -> x.best(2, 1, 1, 0));
    EDGES.leaves("4 PLACES in 2 ROWS", 5, x -> x.best(4, 2, 1, 0));
    EDGES.leaves("7 PLACES in 3 ROWS", 10, x -> x.best(7, 3, 2, 0));
  }

  private static void leastAndGreatest() {
    for (int d : new int[] {1, 6}) {
      for (int f : new int[] {1, 6}) {
        EDGES.leaves("2 PLACES", 1, x -> x.best(2, d, f, 0));
        EDGES.leaves("2 PLACES, how many", 1, x -> x.best(2, d, f, 1));
      }
    }
    EDGES.leaves("7 PLACES one by one", 6, x -> x.best(7, 6, 1, 0));
    EDGES.leaves("there is but this one", 1, x -> x.best(7, 6, 1, 1));
    EDGES.leaves("7 PLACES, all bounds at their greatest", 6, x -> x.best(7, 6, 6, 0));
    // One CELL a PLACE must bring it to 0 at once, behind the one below.
    EDGES.leaves("how many", 1, x -> x.best(7, 6, 6, 1));
  }

  // "LOADS of at most f": the last CELL more on a PLACE is one too many.
  private static void loadsAtTheBound() {
    EDGES.leaves("two CELLS take PLACE 1", 4, x -> x.best(4, 2, 2, 0));
    EDGES.leaves("one CELL takes PLACE 1", 5, x -> x.best(4, 2, 1, 0));
    CarryNets x = new CarryNets();
    for (int f = 1; f <= 6; f++) {
      x.made(7, 3, f);
      EDGES.is("LOAD", x.told(f - 1, 4) <= f ? 1 : 0, 1);
      EDGES.is("the fewest CELLS", x.told(f - 1, 2), x.best(7, 3, f, 0));
    }
  }

  private static void madeBounds() {
    EDGES.bad("made", x -> x.made(1, 1, 1), x -> x.made(8, 6, 6), x -> x.made(2, 0, 1), x -> x.made(2, 7, 1),
        x -> x.made(2, 1, 0), x -> x.made(2, 1, 7), x -> x.made(Integer.MIN_VALUE, 1, 1),
        x -> x.made(Integer.MAX_VALUE, 1, 1), x -> x.made(2, Integer.MIN_VALUE, 1), x -> x.made(2, Integer.MAX_VALUE, 1),
        x -> x.made(2, 1, Integer.MIN_VALUE), x -> x.made(2, 1, Integer.MAX_VALUE));
    CarryNets x = new CarryNets();
    EDGES.is("the least", x.made(2, 1, 1), 0);
    EDGES.is("the greatest", x.made(7, 6, 6), 1);
    EDGES.is("PLACES", x.told(0, 0), 2);
    EDGES.is("PLACES", x.told(1, 0), 7);
  }

  // "BAD; NONE; FULL.", in the order in which the promise tells them.
  private static void madeNone() {
    EDGES.leaves("3 PLACES in 1 ROW", NONE, x -> x.made(3, 1, 6));
    EDGES.leaves("7 PLACES in 2 ROWS", NONE, x -> x.made(7, 2, 6));
    EDGES.leaves("BAD ahead of NONE", BAD, x -> x.made(7, 2, 7));
  }

  private static void madeFull() {
    EDGES.leaves("made", FULL, x -> x.made(2, 1, 1), State.FULL);
    EDGES.leaves("made", FULL, x -> x.made(7, 6, 6), State.FULL);
    CarryNets x = State.FULL.make();
    x.drop();
    EDGES.is("the eighth", x.made(4, 2, 2), 7);
    EDGES.is("PLACES", x.told(7, 0), 4);
    EDGES.is("the ninth", x.made(4, 2, 2), FULL);
  }

  // "of all that whose ROWS, one by one as bits of their PLACES, are the least"
  private static void leastRows() {
    rows(7, 6, 6, 1 << 1, 1 << 2, 1 << 3, 1 << 4, 1 << 5, 1 << 6);
    rows(7, 5, 6, 1 << 1, 1 << 2, 1 << 3, 1 << 4 | 1 << 6, 1 << 5 | 1 << 6);
    rows(4, 2, 2, 1 << 1 | 1 << 3, 1 << 2 | 1 << 3);
    rows(2, 6, 6, 1 << 1);
  }

  private static void rows(int n, int d, int f, int... due) {
    CarryNets x = new CarryNets();
    EDGES.is("made", x.made(n, d, f), 0);
    EDGES.is("its DEPTH", x.told(0, 1), due.length);
    for (int r = 0; r < due.length; r++) {
      int row = 0;
      for (int i = 0; i < n; i++) {
        row |= x.cell(0, r, i, 0) == NONE ? 0 : 1 << i;
      }
      EDGES.is("ROW " + r + " of " + n + ", " + d + ", " + f, row, due[r]);
    }
  }
}
