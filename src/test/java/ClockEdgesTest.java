/** The edges of promises 10 to 13 (pace, start, time, sum) and of TIMES and SUM in the terms, sentence by sentence. */
public final class ClockEdgesTest {
  private static final Edges EDGES = new Edges();
  private static final int BAD = CarryNets.BAD, STATE = CarryNets.STATE, NONE = CarryNets.NONE;
  private static final long ONES = 4294967295L;

  public static void main(String[] args) {
    paceBounds();
    startBounds();
    timeBounds();
    furtherCells();
    laterOfBoth();
    placesWithoutCells();
    timeOfNoRows();
    timeAtTheGreatest();
    sumBounds();
    sumState();
    lowestBitsAlone();
    carriesIn();
    carriesOut();
    EDGES.close();
  }

  // "C (1 to 9; 2 at first) .. F (0 to 9; 1 at first)" "C and F become others: 1. BAD."
  private static void paceBounds() {
    EDGES.bad("pace", x -> x.pace(0, 0), x -> x.pace(10, 0), x -> x.pace(1, -1), x -> x.pace(1, 10), x -> x.pace(0, 10),
        x -> x.pace(-1, 5), x -> x.pace(Integer.MIN_VALUE, 5), x -> x.pace(Integer.MAX_VALUE, 5),
        x -> x.pace(5, Integer.MIN_VALUE), x -> x.pace(5, Integer.MAX_VALUE));
    EDGES.leaves("as at first", 1, x -> x.pace(2, 1), State.FRESH);
    for (int c : new int[] {1, 9}) {
      for (int f : new int[] {0, 9}) {
        CarryNets x = new CarryNets();
        EDGES.is("pace", x.pace(c, f), 1);
        EDGES.is("C", x.count(1), c);
        EDGES.is("F", x.count(2), f);
        x.net(8, 1);
        EDGES.is("halves take", x.time(0, NONE), 3 * c + (1 + 3) * f);
      }
    }
  }

  // "START of PLACE i (0 to 31) becomes t (0 to 99): what it was. BAD."
  private static void startBounds() {
    EDGES.bad("start", x -> x.start(-1, 0), x -> x.start(32, 0), x -> x.start(0, -1), x -> x.start(0, 100),
        x -> x.start(32, 100), x -> x.start(Integer.MIN_VALUE, 1), x -> x.start(Integer.MAX_VALUE, 1),
        x -> x.start(31, Integer.MIN_VALUE), x -> x.start(31, Integer.MAX_VALUE));
    CarryNets x = new CarryNets();
    for (int i : new int[] {0, 31}) {
      EDGES.is("0 at first", x.start(i, 99), 0);
      EDGES.is("what it was", x.start(i, 0), 99);
      EDGES.is("what it was", x.start(i, 1), 0);
    }
    EDGES.leaves("the same again", 99, any -> any.start(31, 99), State.SOME);
  }

  // "The TIME at which PLACE i of a NET is there at its end; i NONE: the latest of all its PLACES. BAD."
  private static void timeBounds() {
    EDGES.bad("time", x -> x.time(-1, 0), x -> x.time(8, 0), x -> x.time(8, NONE), x -> x.time(0, -1), x -> x.time(0, -2),
        x -> x.time(0, -3), x -> x.time(0, -5), x -> x.time(0, 32), x -> x.time(Integer.MIN_VALUE, NONE),
        x -> x.time(Integer.MAX_VALUE, 0), x -> x.time(0, Integer.MIN_VALUE), x -> x.time(0, Integer.MAX_VALUE));
    EDGES.leaves("no NETS", BAD, x -> x.time(0, NONE), State.FRESH);
    EDGES.leaves("beyond the last NET", BAD, x -> x.time(3, NONE), State.SOME);
    EDGES.leaves("PLACE 0", 5, x -> x.time(1, 0), State.SOME);
    EDGES.leaves("the last PLACE", 20, x -> x.time(1, 3), State.SOME);
    EDGES.leaves("beyond the last PLACE", BAD, x -> x.time(1, 4), State.SOME);
    EDGES.leaves("the latest", 20, x -> x.time(1, NONE), State.SOME);
    EDGES.leaves("the last PLACE of 32", 99 + 5 * 3, x -> x.time(0, 31), State.SOME);
  }

  // "F .. for each further CELL of the ROW that takes j, too": none for one CELL alone.
  private static void furtherCells() {
    CarryNets x = new CarryNets();
    x.pace(1, 9);
    Texts.tell(x, "4:1;2;3;");
    Texts.tell(x, "4:1,3;2,3;");
    Texts.tell(x, "8:1,3,5,7;2,3,6,7;4,5,6,7;");
    EDGES.is("one CELL takes it", x.time(0, 3), 3);
    EDGES.is("two CELLS take it", x.time(1, 3), 1 + 1 + 9);
    EDGES.is("the other of the two", x.time(1, 2), 1 + 1 + 9);
    EDGES.is("four CELLS take it", x.time(2, 7), 1 + 1 + 9 + 1 + 27);
    EDGES.is("another of the four", x.time(2, 4), 1 + 1 + 9 + 1 + 27);
  }

  // "a CELL begins when both (i and j, as ahead of the ROW) are there"
  private static void laterOfBoth() {
    CarryNets x = new CarryNets();
    Texts.tell(x, "3:1,2;2;");
    x.start(1, 50);
    EDGES.is("i is the later", x.time(0, 1), 52);
    EDGES.is("j is the later, as ahead of the ROW", x.time(0, 2), 54);
    x.start(0, 99);
    EDGES.is("j is the later", x.time(0, 1), 101);
    EDGES.is("j of the second ROW is PLACE 0", x.time(0, 2), 101);
    x.start(2, 99);
    EDGES.is("both at once", x.time(0, 2), 103);
  }

  // "a PLACE without a CELL in a ROW keeps its time." "At PLACE i all is there at START of i"
  private static void placesWithoutCells() {
    CarryNets x = new CarryNets();
    Texts.tell(x, "4:3;3;3;");
    x.start(0, 7);
    x.start(2, 99);
    EDGES.is("PLACE 0", x.time(0, 0), 7);
    EDGES.is("PLACE 1", x.time(0, 1), 0);
    EDGES.is("PLACE 2", x.time(0, 2), 99);
    EDGES.is("PLACE 3", x.time(0, 3), 105);
    x.start(31, 99);
    x.start(4, 99);
    x.start(2, 0);
    EDGES.is("PLACES above the NET's own do not count", x.time(0, NONE), 9);
  }

  private static void timeOfNoRows() {
    CarryNets x = new CarryNets();
    Texts.tell(x, "2:");
    EDGES.is("the latest", x.time(0, NONE), 0);
    x.start(1, 99);
    EDGES.is("PLACE 0", x.time(0, 0), 0);
    EDGES.is("PLACE 1", x.time(0, 1), 99);
    EDGES.is("the latest is the last", x.time(0, NONE), 99);
    x.start(1, 7);
    x.start(0, 8);
    EDGES.is("the latest is PLACE 0", x.time(0, NONE), 8);
  }

  private static void timeAtTheGreatest() {
    CarryNets x = new CarryNets();
    x.net(32, 0);
    x.net(32, 1);
    x.pace(9, 9);
    x.start(0, 99);
    EDGES.is("one by one", x.time(0, 31), 99 + 31 * 9);
    EDGES.is("halves", x.time(1, 31), 99 + 5 * 9 + (1 + 3 + 7 + 15) * 9);
  }

  // "BAD; STATE: it is not WHOLE."
  private static void sumBounds() {
    EDGES.bad("sum", x -> x.sum(-1, 0, 0, false, 0), x -> x.sum(8, 0, 0, false, 0), x -> x.sum(0, 0, 0, false, -1),
        x -> x.sum(0, 0, 0, false, 2), x -> x.sum(Integer.MIN_VALUE, 0, 0, false, 0),
        x -> x.sum(Integer.MAX_VALUE, 0, 0, false, 0), x -> x.sum(0, 0, 0, true, Integer.MIN_VALUE),
        x -> x.sum(0, 0, 0, true, Integer.MAX_VALUE));
    EDGES.leaves("no NETS", BAD, x -> x.sum(0, 0, 0, false, 0), State.FRESH);
    EDGES.leaves("beyond the last NET", BAD, x -> x.sum(3, 0, 0, false, 1), State.SOME);
    EDGES.leaves("the last NET", 3, x -> x.sum(2, 1, 2, false, 0), State.SOME);
    EDGES.leaves("the last NET", 3, x -> x.sum(7, 1, 2, false, 0), State.FULL);
  }

  private static void sumState() {
    EDGES.leaves("not WHOLE", STATE, x -> x.sum(1, 0, 0, false, 0), State.SOME, State.FULL);
    EDGES.leaves("not WHOLE", STATE, x -> x.sum(1, -1, 5, true, 1), State.SOME, State.FULL);
    EDGES.leaves("BAD ahead of STATE", BAD, x -> x.sum(1, 0, 0, false, 2), State.SOME, State.FULL);
    CarryNets x = new CarryNets();
    Texts.tell(x, "2:");
    Texts.tell(x, "2:1;");
    EDGES.is("no ROWS", x.sum(0, 1, 1, false, 0), STATE);
    EDGES.is("one ROW", x.sum(1, 1, 1, false, 0), 2);
  }

  // "a and b (their n lowest bits; others are not looked at)"
  private static void lowestBitsAlone() {
    CarryNets x = new CarryNets();
    x.net(2, 0);
    x.net(31, 1);
    x.net(32, 2);
    EDGES.is("2 bits", x.sum(0, ~3 | 1, 4 | 1, false, 0), 2);
    EDGES.is("2 bits", x.sum(0, ~3 | 1, 4 | 1, false, 1), 1);
    EDGES.is("31 bits: bit 31 is another", x.sum(1, Integer.MIN_VALUE, Integer.MIN_VALUE, false, 1), 0);
    EDGES.is("31 bits: bit 30 is the last", x.sum(1, 1 << 30, 1 << 30, false, 1), 1 << 30);
    EDGES.is("32 bits: bit 31 is the last", x.sum(2, Integer.MIN_VALUE, Integer.MIN_VALUE, false, 1), 1L << 31);
    EDGES.is("32 bits: it is no sign", x.sum(2, Integer.MIN_VALUE, 0, false, 0), 1L << 31);
  }

  // "or the carry in, if the SPAN hands it on down to 0."
  private static void carriesIn() {
    CarryNets x = new CarryNets();
    x.net(32, 3);
    EDGES.is("handed on by all", x.sum(0, -1, 0, true, 1), ONES);
    EDGES.is("wraps around", x.sum(0, -1, 0, true, 0), 0);
    EDGES.is("none comes in", x.sum(0, -1, 0, false, 1), 0);
    EDGES.is("none comes in", x.sum(0, -1, 0, false, 0), ONES);
    EDGES.is("handed on by none", x.sum(0, 0, 0, true, 1), 0);
    EDGES.is("it is added, though", x.sum(0, 0, 0, true, 0), 1);
    EDGES.is("handed on by all but the last", x.sum(0, Integer.MAX_VALUE, 0, true, 1), ONES >> 1);
  }

  // "carries 1 to n as bits 0 to n - 1"
  private static void carriesOut() {
    CarryNets x = new CarryNets();
    x.net(32, 4);
    x.net(2, 1);
    EDGES.is("made by all", x.sum(0, -1, -1, false, 1), ONES);
    EDGES.is("the sum", x.sum(0, -1, -1, false, 0), ONES - 1);
    EDGES.is("the greatest sum", x.sum(0, -1, -1, true, 0), ONES);
    EDGES.is("made by the first alone", x.sum(0, 1, 1, false, 1), 1);
    EDGES.is("none", x.sum(0, 0, 0, false, 1), 0);
    EDGES.is("2 PLACES", x.sum(1, 3, 3, true, 1), 3);
    EDGES.is("2 PLACES", x.sum(1, 3, 3, true, 0), 3);
    EDGES.is("carry 2 alone", x.sum(1, 2, 2, false, 1), 2);
  }
}
