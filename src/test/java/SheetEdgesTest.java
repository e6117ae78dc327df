/** The edges of promises 28 to 31 (sheet, lay, heights, count) and of SHEETS in the terms, sentence by sentence. */
public final class SheetEdgesTest {
  private static final Edges EDGES = new Edges();
  private static final int NONE = CarryNets.NONE;

  public static void main(String[] args) {
    sheetBounds();
    sheetSize();
    sheetIsNew();
    layBounds();
    layFaults();
    lowestBits();
    heightsBounds();
    heightsFaults();
    heightsCellByCell();
    noHeights();
    othersBecomeZero();
    countBounds();
    countEmptyAndFull();
    EDGES.close();
  }

  /** SHEET 1 with these CELLS in a lane. */
  private static CarryNets sheet(int lane, int... cells) {
    CarryNets x = new CarryNets();
    x.sheet(1, lane, cells.length);
    for (int i = 0; i < cells.length; i++) {
      x.lay(1, i, cells[i]);
    }
    return x;
  }

  // "SHEETS 0 to 3 are rows of BYTES (lane 0), SHORTS (1), INTS (2) with 0 to 60 CELLS" "BAD: also n above 60"
  private static void sheetBounds() {
    EDGES.bad("sheet", x -> x.sheet(-1, 0, 1), x -> x.sheet(4, 0, 1), x -> x.sheet(0, -1, 1), x -> x.sheet(0, 3, 1),
        x -> x.sheet(0, 0, 61), x -> x.sheet(3, 2, 61), x -> x.sheet(Integer.MIN_VALUE, 0, 1),
        x -> x.sheet(Integer.MAX_VALUE, 0, 1), x -> x.sheet(0, Integer.MIN_VALUE, 1), x -> x.sheet(0, Integer.MAX_VALUE, 1),
        x -> x.sheet(0, 0, Integer.MAX_VALUE));
    for (int k = 0; k < 4; k++) {
      for (int lane = 0; lane < 3; lane++) {
        CarryNets x = new CarryNets();
        EDGES.is("no CELLS", x.sheet(k, lane, 0), 1);
        EDGES.is("no CELL 0", x.lay(k, 0, 1), -12);
        EDGES.is("60 CELLS", x.sheet(k, lane, 60), 1);
        EDGES.is("the last", x.lay(k, 59, 1), 1);
        EDGES.is("one beyond", x.lay(k, 60, 1), -12);
      }
    }
  }

  // "-10 - 4": "4 SIZE (below 0)", behind BAD.
  private static void sheetSize() {
    EDGES.leaves("below 0", -14, x -> x.sheet(0, 0, -1));
    EDGES.leaves("below 0", -14, x -> x.sheet(3, 2, -1));
    EDGES.leaves("far below 0", -14, x -> x.sheet(1, 1, Integer.MIN_VALUE));
    EDGES.bad("BAD ahead of SIZE", x -> x.sheet(4, 0, -1), x -> x.sheet(-1, 0, -1), x -> x.sheet(0, 3, -1),
        x -> x.sheet(0, -1, Integer.MIN_VALUE));
  }

  // "A SHEET is a new row of CELLS 0: 1."
  private static void sheetIsNew() {
    CarryNets x = sheet(2, 7, 8, 9);
    EDGES.is("of the same lane and size", x.sheet(1, 2, 3), 1);
    EDGES.is("CELLS 0", x.heights(1, 2, 0, 3), 0);
    x.lay(1, 2, 9);
    EDGES.is("shorter", x.sheet(1, 2, 1), 1);
    EDGES.is("no CELL 1", x.heights(1, 2, 0, 2), -12);
    EDGES.is("longer again", x.sheet(1, 2, 3), 1);
    EDGES.is("CELLS 0", x.heights(1, 2, 0, 3), 0);
    EDGES.is("of another lane", x.sheet(1, 0, 3), 1);
    EDGES.is("no longer of the lane that it was", x.heights(1, 2, 0, 3), -13);
    EDGES.is("CELLS 0", x.heights(1, 0, 0, 3), 0);
    EDGES.is("the others are nothing still", x.lay(2, 0, 0), -11);
    EDGES.is("no CELLS are not nothing", x.sheet(0, 0, 0), 1);
    EDGES.is("INDEX, not NULL", x.lay(0, 0, 0), -12);
  }

  // "BAD: k"
  private static void layBounds() {
    EDGES.bad("lay", x -> x.lay(-1, 0, 0), x -> x.lay(4, 0, 0), x -> x.lay(4, -1, 0), x -> x.lay(Integer.MIN_VALUE, 0, 0),
        x -> x.lay(Integer.MAX_VALUE, 0, 0));
  }

  // "-10 less the FAULT: NULL, INDEX."
  private static void layFaults() {
    for (int k = 0; k < 4; k++) {
      int sheet = k;
      EDGES.leaves("nothing", -11, x -> x.lay(sheet, 0, 1), State.FRESH);
      EDGES.leaves("NULL ahead of INDEX", -11, x -> x.lay(sheet, -1, 1), State.FRESH);
      EDGES.leaves("INDEX", -12, x -> x.lay(sheet, -1, 1), State.FULL);
      EDGES.leaves("INDEX", -12, x -> x.lay(sheet, 60, 1), State.FULL);
      EDGES.leaves("INDEX", -12, x -> x.lay(sheet, Integer.MIN_VALUE, 1), State.FULL);
      EDGES.leaves("INDEX", -12, x -> x.lay(sheet, Integer.MAX_VALUE, 1), State.FULL);
    }
    EDGES.leaves("nothing", -11, x -> x.lay(3, 0, 1), State.SOME);
    EDGES.leaves("behind the last CELL", -12, x -> x.lay(0, 2, 1), State.SOME);
    EDGES.leaves("the last CELL", 1, x -> x.lay(0, 1, 12), State.SOME);
  }

  // "CELL i of a SHEET becomes v (its lowest bits)"
  private static void lowestBits() {
    int[][] kept = {
      {12, 12, 12, 12}, {13, -20, -20, -20}, {0, 0, 0, 0}, {-1, -20, -20, -20}, {127, -20, -20, -20}, {128, -20, -20, -20},
      {255, -20, -20, -20}, {256, 0, -20, -20}, {256 + 12, 12, -20, -20}, {-256, 0, -20, -20}, {-244, 12, -20, -20},
      {32768, 0, -20, -20}, {65535, -20, -20, -20}, {65536, 0, 0, -20}, {65536 + 7, 7, 7, -20}, {-65536 + 3, 3, 3, -20},
      {Integer.MIN_VALUE, 0, 0, -20}, {Integer.MAX_VALUE, -20, -20, -20}, {Integer.MIN_VALUE + 9, 9, 9, -20}};
    for (int[] row : kept) {
      for (int lane = 0; lane < 3; lane++) {
        EDGES.is("lane " + lane + " of " + row[0], sheet(lane, row[0]).heights(1, lane, 0, 1), row[1 + lane]);
      }
    }
  }

  // "(n 1 to 12 ..)" "BAD: k, lane, n"
  private static void heightsBounds() {
    EDGES.bad("heights", x -> x.heights(-1, 0, 0, 1), x -> x.heights(4, 0, 0, 1), x -> x.heights(0, -1, 0, 1),
        x -> x.heights(0, 3, 0, 1), x -> x.heights(0, 0, 0, 0), x -> x.heights(0, 0, 0, 13), x -> x.heights(0, 0, 0, -1),
        x -> x.heights(Integer.MIN_VALUE, 0, 0, 1), x -> x.heights(Integer.MAX_VALUE, 0, 0, 1),
        x -> x.heights(0, Integer.MIN_VALUE, 0, 1), x -> x.heights(0, Integer.MAX_VALUE, 0, 1),
        x -> x.heights(0, 0, 0, Integer.MIN_VALUE), x -> x.heights(0, 0, 0, Integer.MAX_VALUE));
    EDGES.bad("BAD ahead of all FAULTS", x -> x.heights(3, 2, -1, 13), x -> x.heights(3, 3, 60, 1),
        x -> x.heights(4, 1, -1, 1), x -> x.heights(2, 0, 59, 0));
    CarryNets x = sheet(1, 1, 2, 3, 4, 5, 6, 7, 8, 9, 10, 11, 12);
    EDGES.is("one", x.heights(1, 1, 11, 1), 12);
    EDGES.is("twelve", x.heights(1, 1, 0, 12), 78);
    EDGES.is("COLUMN 0", x.heap(0), 1);
    EDGES.is("COLUMN 11", x.heap(11), 12);
  }

  // "-10 less the FAULT: NULL, CAST, then CELL by CELL INDEX"
  private static void heightsFaults() {
    for (int lane = 0; lane < 3; lane++) {
      int as = lane;
      EDGES.leaves("NULL ahead of CAST and INDEX", -11, x -> x.heights(3, as, -1, 12), State.FRESH, State.SOME);
      for (int k = 0; k < 3; k++) {
        int sheet = k;
        if (k != lane) {
          EDGES.leaves("CAST", -13, x -> x.heights(sheet, as, 0, 1), State.SOME, State.FULL);
          EDGES.leaves("CAST ahead of INDEX", -13, x -> x.heights(sheet, as, -1, 12), State.SOME, State.FULL);
        }
      }
      EDGES.leaves("INDEX below 0", -12, x -> x.heights(as, as, -1, 2), State.SOME, State.FULL);
      EDGES.leaves("INDEX beyond all", -12, x -> x.heights(as, as, 60, 1), State.SOME, State.FULL);
      EDGES.leaves("INDEX far off", -12, x -> x.heights(as, as, Integer.MIN_VALUE, 12), State.SOME, State.FULL);
      EDGES.leaves("INDEX far off", -12, x -> x.heights(as, as, Integer.MAX_VALUE, 12), State.SOME, State.FULL);
      CarryNets x = new CarryNets();
      x.sheet(1, lane, 0);
      EDGES.is("no CELLS", x.heights(1, lane, 0, 1), -12);
    }
  }

  // "the first met: then none changed."
  private static void heightsCellByCell() {
    EDGES.leaves("INDEX behind two good ones", -12, x -> x.heights(0, 0, 0, 3), State.SOME);
    EDGES.answers("just the last two", 11, x -> x.heights(0, 0, 58, 2), State.FULL);
    EDGES.leaves("INDEX behind the last", -12, x -> x.heights(0, 0, 59, 2), State.FULL);
    CarryNets x = sheet(2, 5, 13, 4);
    x.height(0, 9);
    x.height(5, 8);
    EDGES.is("no HEIGHT ahead of INDEX", x.heights(1, 2, 1, 3), -20);
    EDGES.is("no HEIGHT ahead of INDEX", x.heights(1, 2, 0, 4), -21);
    EDGES.is("INDEX", x.heights(1, 2, 2, 2), -12);
    EDGES.is("INDEX ahead of no HEIGHT", x.heights(1, 2, -1, 4), -12);
    EDGES.is("none changed", x.heap(0), 9);
    EDGES.is("none changed", x.heap(5), 8);
    EDGES.is("none changed", x.heap(21), 17);
  }

  // "-20 less i: CELL f + i is no HEIGHT"
  private static void noHeights() {
    EDGES.leaves("-1 at the last of four", -23, x -> x.heights(2, 2, 0, 4), State.SOME);
    EDGES.leaves("counted from f", -21, x -> x.heights(2, 2, 2, 2), State.SOME);
    EDGES.leaves("f itself", -20, x -> x.heights(2, 2, 3, 1), State.SOME);
    EDGES.is("12 is one", sheet(2, 12).heights(1, 2, 0, 1), 12);
    EDGES.is("13 is none", sheet(2, 13).heights(1, 2, 0, 1), -20);
    EDGES.is("0 is one", sheet(2, 0).heights(1, 2, 0, 1), 0);
    EDGES.is("-1 is none", sheet(2, -1).heights(1, 2, 0, 1), -20);
    EDGES.is("the twelfth", sheet(0, 0, 0, 0, 0, 0, 0, 0, 0, 0, 0, 0, 13).heights(1, 0, 0, 12), -31);
    EDGES.is("the first of two", sheet(0, 1, 13, -1).heights(1, 0, 0, 3), -21);
  }

  // "HEIGHTS of COLUMNS 0 to n - 1 (.. others become 0) are read .. from CELL f on: all bits."
  private static void othersBecomeZero() {
    CarryNets x = sheet(2, 4, 5, 6, 7);
    EDGES.is("CELLS 1 and 2", x.heights(1, 2, 1, 2), 11);
    EDGES.is("COLUMN 0 has CELL 1", x.heap(0), 5);
    EDGES.is("COLUMN 1 has CELL 2", x.heap(1), 6);
    EDGES.is("COLUMN 2 does not have CELL 3", x.heap(2), 0);
    x = State.FULL.make();
    EDGES.is("CELL 59 alone", x.heights(0, 0, 59, 1), 11);
    EDGES.is("COLUMN 0", x.heap(0), 11);
    EDGES.is("others", x.heap(21), 11);
    x = State.FULL.make();
    EDGES.is("CELLS 48 to 59", x.heights(0, 0, 48, 12), 11);
    EDGES.is("COLUMN 11", x.heap(11), 11);
    EDGES.is("COLUMNS that are not empty", x.heap(23), 1);
    x = State.FULL.make();
    EDGES.is("all 0", x.heights(1, 1, 1, 12), 0);
    EDGES.is("DONE", x.heap(22), 1);
  }

  // "How many: 0 NETS, 1 C, 2 F, 3 bytes on THE TAPE, 4 CELLS of SHEET 0 (NONE: nothing). BAD."
  private static void countBounds() {
    EDGES.bad("count", x -> x.count(-1), x -> x.count(5), x -> x.count(Integer.MIN_VALUE), x -> x.count(Integer.MAX_VALUE));
  }

  private static void countEmptyAndFull() {
    int[][] due = {{0, 2, 1, 0, NONE}, {3, 3, 4, 16, 2}, {8, 9, 9, 240, 60}};
    for (State state : State.values()) {
      for (int what = 0; what < 5; what++) {
        int asked = what;
        EDGES.leaves("count " + what, due[state.ordinal()][what], x -> x.count(asked), state);
      }
    }
    CarryNets x = new CarryNets();
    x.sheet(1, 0, 9);
    x.sheet(3, 0, 9);
    EDGES.is("others are not SHEET 0", x.count(4), NONE);
    x.sheet(0, 0, 0);
    EDGES.is("no CELLS are not nothing", x.count(4), 0);
  }
}
