/** The edges of promises 18 to 20 (run, runs, mean) and of RUN in the terms, sentence by sentence. */
public final class RunsEdgesTest {
  private static final Edges EDGES = new Edges();

  public static void main(String[] args) {
    runBounds();
    numbersOfMoreBits();
    noCarry();
    longestRuns();
    runsBounds();
    runsLeastAndGreatest();
    meanBounds();
    meanInLowestTerms();
    EDGES.close();
  }

  // "RUN of a + b of n bits (1 to 31). BAD"
  private static void runBounds() {
    EDGES.bad("run", x -> x.run(0, 0, 0), x -> x.run(32, 0, 0), x -> x.run(-1, 0, 0), x -> x.run(Integer.MIN_VALUE, 0, 0),
        x -> x.run(Integer.MAX_VALUE, 0, 0));
    EDGES.leaves("1 bit", 1, x -> x.run(1, 1, 1));
    EDGES.leaves("31 bits", 31, x -> x.run(31, Integer.MAX_VALUE, 1));
  }

  // "BAD: also a, b below 0 or of more bits."
  private static void numbersOfMoreBits() {
    EDGES.bad("below 0", x -> x.run(8, -1, 0), x -> x.run(8, 0, -1), x -> x.run(31, -1, 0), x -> x.run(31, 0, -1),
        x -> x.run(31, Integer.MIN_VALUE, 0), x -> x.run(31, 0, Integer.MIN_VALUE), x -> x.run(1, -1, -1));
    EDGES.bad("of more bits", x -> x.run(1, 2, 0), x -> x.run(1, 0, 2), x -> x.run(8, 256, 0), x -> x.run(8, 0, 256),
        x -> x.run(30, 1 << 30, 0), x -> x.run(30, 0, 1 << 30), x -> x.run(8, Integer.MAX_VALUE, 0));
    EDGES.leaves("of just as many", 1, x -> x.run(8, 255, 255));
    EDGES.leaves("of just as many", 1, x -> x.run(30, (1 << 30) - 1, (1 << 30) - 1));
    EDGES.leaves("of just as many", 1, x -> x.run(31, Integer.MAX_VALUE, Integer.MAX_VALUE));
  }

  // "0: no carry; no carry in"
  private static void noCarry() {
    EDGES.leaves("nothing", 0, x -> x.run(1, 0, 0));
    EDGES.leaves("handed on, but none is made", 0, x -> x.run(31, Integer.MAX_VALUE, 0));
    EDGES.leaves("handed on, but none is made", 0, x -> x.run(8, 0x55, 0xaa));
    EDGES.leaves("handed on below the one that is made", 1, x -> x.run(8, 0xff, 0x80));
  }

  // "the most PLACES one behind another through which one carry goes (the PLACE that makes it, then those that hand it on)"
  private static void longestRuns() {
    EDGES.leaves("the last PLACE makes it", 1, x -> x.run(31, 1 << 30, 1 << 30));
    EDGES.leaves("one makes it, one hands it on", 2, x -> x.run(8, 3, 1));
    EDGES.leaves("two carries one behind another are two", 1, x -> x.run(8, 3, 3));
    EDGES.leaves("the second is the longer", 3, x -> x.run(8, 0x73, 0x11));
    EDGES.leaves("the first is the longer", 4, x -> x.run(8, 0x3f, 0x11));
    EDGES.leaves("it ends at the PLACE that does neither", 1, x -> x.run(8, 0xfd, 1));
    EDGES.leaves("through all", 8, x -> x.run(8, 255, 1));
  }

  // "How many of all pairs of n bits (1 to 31) have a RUN of k (0 to n) at most. BAD."
  private static void runsBounds() {
    EDGES.bad("runs", x -> x.runs(0, 0), x -> x.runs(32, 0), x -> x.runs(-1, -1), x -> x.runs(1, -1), x -> x.runs(1, 2),
        x -> x.runs(31, -1), x -> x.runs(31, 32), x -> x.runs(Integer.MIN_VALUE, 0), x -> x.runs(Integer.MAX_VALUE, 0),
        x -> x.runs(31, Integer.MIN_VALUE), x -> x.runs(31, Integer.MAX_VALUE));
  }

  private static void runsLeastAndGreatest() {
    EDGES.leaves("no carry", 3, x -> x.runs(1, 0));
    EDGES.leaves("all of 1 bit", 4, x -> x.runs(1, 1));
    EDGES.leaves("no carry in 31 bits: 3 to the 31", 617673396283947L, x -> x.runs(31, 0));
    EDGES.leaves("all of 31 bits", 1L << 62, x -> x.runs(31, 31));
    EDGES.leaves("all but those through all", (1L << 62) - (1L << 30), x -> x.runs(31, 30));
    EDGES.leaves("all but those through all", (1L << 4) - 2, x -> x.runs(2, 1));
  }

  // "The mean RUN of all pairs of n bits (1 to 15): 0 the numerator, 1 the denominator .. BAD."
  private static void meanBounds() {
    EDGES.bad("mean", x -> x.mean(0, 0), x -> x.mean(16, 0), x -> x.mean(0, 1), x -> x.mean(16, 1), x -> x.mean(1, -1),
        x -> x.mean(1, 2), x -> x.mean(Integer.MIN_VALUE, 0), x -> x.mean(Integer.MAX_VALUE, 1),
        x -> x.mean(15, Integer.MIN_VALUE), x -> x.mean(15, Integer.MAX_VALUE));
    EDGES.leaves("of 1 bit", 1, x -> x.mean(1, 0));
    EDGES.leaves("of 1 bit", 4, x -> x.mean(1, 1));
    EDGES.leaves("of 15 bits", 3370693013L, x -> x.mean(15, 0));
    EDGES.leaves("of 15 bits", 1L << 30, x -> x.mean(15, 1));
  }

  // "in lowest terms (above 0)"
  private static void meanInLowestTerms() {
    for (int n = 1; n <= 15; n++) {
      CarryNets x = new CarryNets();
      long above = x.mean(n, 0);
      long below = x.mean(n, 1);
      EDGES.is("above 0", above > 0 && below > 0 ? 1 : 0, 1);
      EDGES.is("no 2 in both", above % 2 == 0 && below % 2 == 0 ? 1 : 0, 0);
    }
    // 9 pairs without a carry, 5 with a RUN of 1, 2 with one of 2.
    EDGES.leaves("of 2 bits, 9 of 16", 9, x -> x.mean(2, 0));
    EDGES.leaves("of 2 bits, 9 of 16", 16, x -> x.mean(2, 1));
  }
}
