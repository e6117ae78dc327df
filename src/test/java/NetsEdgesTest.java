/** The edges of promises 1 and 6 to 9 (a new object, net, drop, told, cell) and of the NETS' terms, sentence by sentence. */
public final class NetsEdgesTest {
  private static final Edges EDGES = new Edges();
  private static final int BAD = CarryNets.BAD, FULL = CarryNets.FULL, NONE = CarryNets.NONE;

  public static void main(String[] args) {
    aNewObject();
    netBounds();
    netFull();
    dropNone();
    takenAheadOfTheRow();
    lawsAtTheirEnds();
    emptyRowsAreLeftOut();
    toldBounds();
    toldOfNoRows();
    toldAtTheGreatest();
    tracks();
    cellBounds();
    cellOrNone();
    EDGES.close();
  }

  // "No NETS; HEIGHTS 0; SHEETS of nothing." and what the terms have "at first".
  private static void aNewObject() {
    CarryNets x = new CarryNets();
    EDGES.is("NETS", x.count(0), 0);
    EDGES.is("C", x.count(1), 2);
    EDGES.is("F", x.count(2), 1);
    EDGES.is("bytes on THE TAPE", x.count(3), 0);
    EDGES.is("SHEET 0 is nothing", x.count(4), NONE);
    EDGES.is("fault()", x.fault(), 0);
    EDGES.is("NET 0", x.told(0, 0), BAD);
    for (int c = 0; c < 12; c++) {
      EDGES.is("HEIGHT", x.heap(c), 0);
    }
    for (int i = 0; i < 32; i++) {
      EDGES.is("START", x.start(i, 1), 0);
    }
    for (int k = 0; k < 4; k++) {
      EDGES.is("SHEET of nothing", x.lay(k, 0, 0), -11);
    }
    CarryNets other = new CarryNets();
    EDGES.is("nothing of the one is in the other", other.start(0, 0), 0);
  }

  // "A NET of n PLACES (2 to 32) by a LAW (0 to 4): its number. BAD"
  private static void netBounds() {
    EDGES.bad("net", x -> x.net(1, 0), x -> x.net(33, 0), x -> x.net(2, -1), x -> x.net(2, 5), x -> x.net(0, 0),
        x -> x.net(-2, 0), x -> x.net(1, 5), x -> x.net(Integer.MIN_VALUE, 0), x -> x.net(Integer.MAX_VALUE, 0),
        x -> x.net(32, Integer.MIN_VALUE), x -> x.net(32, Integer.MAX_VALUE));
    for (int law = 0; law < 5; law++) {
      CarryNets x = new CarryNets();
      EDGES.is("2 PLACES", x.net(2, law), 0);
      EDGES.is("32 PLACES", x.net(32, law), 1);
      EDGES.is("2", x.told(0, 0), 2);
      EDGES.is("32", x.told(1, 0), 32);
      EDGES.is("WHOLE", x.told(0, 3), 1);
      EDGES.is("WHOLE", x.told(1, 3), 1);
    }
  }

  // "NETS (8) are numbered as they come." "FULL", behind BAD.
  private static void netFull() {
    CarryNets x = new CarryNets();
    for (int k = 0; k < 8; k++) {
      EDGES.is("its number", x.net(2 + k, 0), k);
      EDGES.is("NETS", x.count(0), k + 1);
    }
    EDGES.is("the ninth", x.net(2, 0), FULL);
    EDGES.leaves("net", FULL, any -> any.net(2, 0), State.FULL);
    EDGES.leaves("net", FULL, any -> any.net(32, 4), State.FULL);
    EDGES.leaves("BAD ahead of FULL", BAD, any -> any.net(1, 0), State.FULL);
  }

  // "The latest NET goes: its number. NONE."
  private static void dropNone() {
    EDGES.leaves("drop", NONE, CarryNets::drop, State.FRESH);
    CarryNets x = State.FULL.make();
    for (int k = 7; k >= 0; k--) {
      EDGES.is("the latest", x.drop(), k);
      EDGES.is("it is gone", x.told(k, 0), BAD);
      EDGES.is("those ahead of it stay", x.count(0), k);
    }
    EDGES.is("there is none", x.drop(), NONE);
    EDGES.is("its number is free again", x.net(3, 0), 0);
    EDGES.is("of the new one", x.told(0, 0), 3);
    EDGES.is("and no more ROWS than it has", x.told(0, 102), BAD);
  }

  // "at first low(i) is i." "A CELL at PLACE i takes j (j is low(i) less 1, both as they are ahead of the ROW)"
  private static void takenAheadOfTheRow() {
    CarryNets x = new CarryNets();
    Texts.tell(x, "4:");
    Texts.tell(x, "4:1,2,3;");
    Texts.tell(x, "4:3,2,1;2,3;");
    for (int i = 0; i < 4; i++) {
      EDGES.is("at first", x.told(0, 200 + i), i);
      EDGES.is("behind one ROW", x.told(1, 200 + i), new int[] {0, 0, 1, 2}[i]);
      EDGES.is("behind two", x.told(2, 200 + i), 0);
    }
    EDGES.is("not WHOLE", x.told(1, 3), 0);
    EDGES.is("WHOLE", x.told(2, 3), 1);
    EDGES.is("j of the second ROW", x.cell(2, 1, 3, 0), 1);
    EDGES.is("j of the second ROW", x.cell(2, 1, 2, 0), 0);
  }

  // "as long as 2 to the r is below n" and "2 to the r + 1 is n at most": DEPTH and CELLS about powers of 2.
  private static void lawsAtTheirEnds() {
    int[] places = {2, 3, 4, 5, 7, 8, 9, 15, 16, 17, 31, 32};
    int[][] depths = {{1, 2, 3, 4, 6, 7, 8, 14, 15, 16, 30, 31}, {1, 2, 2, 3, 3, 3, 4, 4, 4, 5, 5, 5},
      {1, 2, 2, 3, 3, 3, 4, 4, 4, 5, 5, 5}, {1, 2, 3, 3, 4, 5, 5, 6, 7, 7, 8, 9}, {1, 2, 3, 3, 4, 4, 4, 5, 5, 5, 6, 6}};
    for (int law = 0; law < 5; law++) {
      for (int p = 0; p < places.length; p++) {
        CarryNets x = new CarryNets();
        x.net(places[p], law);
        EDGES.is("DEPTH of " + places[p] + " by law " + law, x.told(0, 1), depths[law][p]);
        EDGES.is("CELLS of " + places[p] + " by law " + law, x.told(0, 2), cells(places[p], law));
      }
    }
  }

  /** Written out for each law once more, by PLACES. */
  private static int cells(int n, int law) {
    int cells = 0;
    for (int i = 1; i < n; i++) {
      int bits = 32 - Integer.numberOfLeadingZeros(i);
      int twos = Integer.numberOfTrailingZeros(i + 1);
      boolean power = Integer.bitCount(i + 1) == 1;
      switch (law) {
        case 0: cells += 1; break;
        case 1: cells += Integer.bitCount(i); break;
        case 2: cells += bits; break;
        case 3: cells += twos + (power ? 0 : 1); break;
        default: cells += i % 2 == 1 ? bits : 1;
      }
    }
    return cells;
  }

  // "ROWS without CELLS are left out."
  private static void emptyRowsAreLeftOut() {
    CarryNets x = new CarryNets();
    x.net(2, 3);
    x.net(4, 3);
    x.net(2, 4);
    x.net(3, 4);
    EDGES.is("no way down", x.told(0, 1), 1);
    EDGES.is("no first ROW down", x.told(1, 102), 1);
    EDGES.is("its CELL", x.cell(1, 2, 2, 0), 1);
    EDGES.is("no even PLACES", x.told(2, 1), 1);
    EDGES.is("no odd ones at 2 or above", x.told(3, 1), 2);
    EDGES.is("the even one", x.cell(3, 1, 2, 0), 1);
  }

  // "0 PLACES .. 7 the longest WAY; 100 and r: CELLS of ROW r; 200 and i: low(i) at its end. BAD."
  private static void toldBounds() {
    EDGES.bad("told", x -> x.told(-1, 0), x -> x.told(8, 0), x -> x.told(0, -1), x -> x.told(0, 8), x -> x.told(0, 99),
        x -> x.told(0, 132), x -> x.told(0, 199), x -> x.told(0, 232), x -> x.told(Integer.MIN_VALUE, 0),
        x -> x.told(Integer.MAX_VALUE, 0), x -> x.told(0, Integer.MIN_VALUE), x -> x.told(0, Integer.MAX_VALUE));
    EDGES.leaves("no NETS", BAD, x -> x.told(0, 0), State.FRESH);
    EDGES.leaves("the last NET", 5, x -> x.told(2, 0), State.SOME);
    EDGES.leaves("beyond the last NET", BAD, x -> x.told(3, 0), State.SOME);
    EDGES.leaves("the last NET", 7, x -> x.told(7, 0), State.FULL);
    EDGES.leaves("ROW 0", 31, x -> x.told(0, 100), State.SOME);
    EDGES.leaves("the last ROW", 16, x -> x.told(0, 104), State.SOME);
    EDGES.leaves("beyond the last ROW", BAD, x -> x.told(0, 105), State.SOME);
    EDGES.leaves("the last ROW", 1, x -> x.told(0, 130), State.FULL);
    EDGES.leaves("beyond the last ROW", BAD, x -> x.told(0, 131), State.FULL);
    EDGES.leaves("PLACE 0", 0, x -> x.told(1, 200), State.SOME);
    EDGES.leaves("the last PLACE", 2, x -> x.told(1, 203), State.SOME);
    EDGES.leaves("beyond the last PLACE", BAD, x -> x.told(1, 204), State.SOME);
    EDGES.leaves("the last PLACE", 30, x -> x.told(1, 231), State.FULL);
  }

  private static void toldOfNoRows() {
    CarryNets x = new CarryNets();
    Texts.tell(x, "32:");
    int[] due = {32, 0, 0, 0, 0, 0, 0, 0};
    for (int what = 0; what < 8; what++) {
      EDGES.is("no ROWS: " + what, x.told(0, what), due[what]);
    }
    EDGES.is("no ROW 0", x.told(0, 100), BAD);
    EDGES.is("low(31)", x.told(0, 231), 31);
  }

  // The greatest that 32 PLACES can have: 16 CELLS take one PLACE, a WAY of 31, all wires over one gap.
  private static void toldAtTheGreatest() {
    CarryNets x = new CarryNets();
    x.net(32, 1);
    x.net(32, 2);
    Texts.tell(x, "32:1,2,3,4,5,6,7,8,9,10,11,12,13,14,15,16,17,18,19,20,21,22,23,24,25,26,27,28,29,30,31;"
        + "31,30,29,28,27,26,25,24,23,22,21,20,19,18,17,16,15,14,13,12,11,10,9,8,7,6,5,4,3,2;");
    EDGES.is("LOAD by halves", x.told(0, 4), 16);
    EDGES.is("TRACKS by halves", x.told(0, 6), 16);
    EDGES.is("longest WAY by halves", x.told(0, 7), 16);
    EDGES.is("LOAD by doubles", x.told(1, 4), 1);
    EDGES.is("TRACKS by doubles", x.told(1, 6), 16);
    EDGES.is("all WAYS by doubles", x.told(1, 5), 31 + 2 * 30 + 4 * 28 + 8 * 24 + 16 * 16);
    EDGES.is("CELLS of all PLACES", x.told(2, 100), 31);
    EDGES.is("CELLS of all but one", x.told(2, 101), 30);
    EDGES.is("low(31)", x.told(2, 231), 28);
    Texts.tell(x, Texts.rows(31));
    EDGES.is("the longest WAY of all", x.told(3, 7), 31);
    EDGES.is("low(31)", x.told(3, 231), 0);
  }

  // "the most CELLS whose wires go over one gap (between p and p + 1: j is p at most, i is p + 1 at least)"
  private static void tracks() {
    CarryNets x = new CarryNets();
    Texts.tell(x, "4:1,2,3;");
    Texts.tell(x, "4:3;3;");
    Texts.tell(x, "4:1,3;3,2;");
    Texts.tell(x, "6:2,4;2,4;");
    EDGES.is("end to end: one over each gap", x.told(0, 6), 1);
    EDGES.is("one wire, twice as far", x.told(1, 6), 1);
    EDGES.is("two over the gap behind 1", x.told(2, 6), 2);
    EDGES.is("two that meet in no gap", x.told(3, 6), 1);
    EDGES.is("their longest WAY", x.told(3, 7), 2);
    Texts.tell(x, "7:5,6;1,5,6;");
    EDGES.is("one that ends does not count further on", x.told(4, 6), 2);
  }

  // "Of ROW r of a NET at PLACE i: .. BAD."
  private static void cellBounds() {
    EDGES.bad("cell", x -> x.cell(-1, 0, 0, 0), x -> x.cell(8, 0, 0, 0), x -> x.cell(0, -1, 0, 0),
        x -> x.cell(0, 32, 0, 0), x -> x.cell(0, 0, -1, 0), x -> x.cell(0, 0, 32, 0), x -> x.cell(0, 0, 0, -1),
        x -> x.cell(0, 0, 0, 3), x -> x.cell(Integer.MIN_VALUE, 0, 0, 0), x -> x.cell(0, Integer.MAX_VALUE, 0, 0),
        x -> x.cell(0, 0, Integer.MIN_VALUE, 0), x -> x.cell(0, 0, 0, Integer.MAX_VALUE));
    EDGES.leaves("no NETS", BAD, x -> x.cell(0, 0, 0, 0), State.FRESH);
    EDGES.leaves("beyond the last NET", BAD, x -> x.cell(3, 0, 0, 0), State.SOME);
    EDGES.leaves("the last ROW and PLACE", 15, x -> x.cell(0, 4, 31, 0), State.SOME);
    EDGES.leaves("beyond the last ROW", BAD, x -> x.cell(0, 5, 31, 0), State.SOME);
    EDGES.leaves("the last PLACE", 2, x -> x.cell(1, 0, 3, 0), State.SOME);
    EDGES.leaves("beyond the last PLACE", BAD, x -> x.cell(1, 0, 4, 0), State.SOME);
    EDGES.leaves("BAD ahead of NONE", BAD, x -> x.cell(1, 0, 0, 3), State.SOME);
    CarryNets x = new CarryNets();
    Texts.tell(x, "2:");
    EDGES.is("no ROWS", x.cell(0, 0, 1, 0), BAD);
  }

  // "what the CELL there takes (what 0; NONE: no CELL), low(i) behind the ROW (1), LOAD of i in it (2)."
  private static void cellOrNone() {
    CarryNets x = new CarryNets();
    Texts.tell(x, "4:1,3;2,3;");
    int[][] takes = {{NONE, 0, NONE, 2}, {NONE, NONE, 1, 1}};
    int[][] lows = {{0, 0, 2, 2}, {0, 0, 0, 0}};
    int[][] loads = {{1, 0, 1, 0}, {0, 2, 0, 0}};
    for (int r = 0; r < 2; r++) {
      for (int i = 0; i < 4; i++) {
        EDGES.is("takes", x.cell(0, r, i, 0), takes[r][i]);
        EDGES.is("low", x.cell(0, r, i, 1), lows[r][i]);
        EDGES.is("LOAD", x.cell(0, r, i, 2), loads[r][i]);
      }
    }
    EDGES.leaves("no CELL", NONE, any -> any.cell(0, 0, 0, 0), State.SOME, State.FULL);
  }
}
