/** The edges of promises 21 to 27 (height to times) and of HEAP and DIGITS in the terms, sentence by sentence. */
public final class HeapEdgesTest {
  private static final Edges EDGES = new Edges();
  private static final int BAD = CarryNets.BAD, STATE = CarryNets.STATE;

  public static void main(String[] args) {
    heightBounds();
    productBounds();
    productSetsAll();
    downBounds();
    downOneRow();
    downWhenDone();
    threesAtOnce();
    late();
    lostAboveTheLast();
    downsBounds();
    downsAsItWouldBe();
    heapBounds();
    heapEmptyAndFull();
    digitBounds();
    digitEnds();
    timesBounds();
    timesState();
    timesEnds();
    EDGES.close();
  }

  private static CarryNets heap(int... heights) {
    CarryNets x = new CarryNets();
    for (int c = 0; c < heights.length; c++) {
      x.height(c, heights[c]);
    }
    return x;
  }

  /** The COLUMNS are as told, those that are not told 0. */
  private static void shows(String name, CarryNets x, int... heights) {
    for (int c = 0; c < 12; c++) {
      EDGES.is(name + ", COLUMN " + c, x.heap(c), c < heights.length ? heights[c] : 0);
    }
  }

  // "12 COLUMNS (0 to 11), each with a HEIGHT (0 to 12)." "HEIGHT of a COLUMN becomes h: what it was. BAD."
  private static void heightBounds() {
    EDGES.bad("height", x -> x.height(-1, 0), x -> x.height(12, 0), x -> x.height(0, -1), x -> x.height(0, 13),
        x -> x.height(12, 13), x -> x.height(Integer.MIN_VALUE, 1), x -> x.height(Integer.MAX_VALUE, 1),
        x -> x.height(0, Integer.MIN_VALUE), x -> x.height(11, Integer.MAX_VALUE));
    CarryNets x = new CarryNets();
    for (int column : new int[] {0, 11}) {
      EDGES.is("0 at first", x.height(column, 12), 0);
      EDGES.is("what it was", x.height(column, 0), 12);
      EDGES.is("what it was", x.height(column, 1), 0);
      EDGES.is("HEIGHT", x.heap(column), 1);
    }
    EDGES.leaves("the same again", 12, any -> any.height(11, 12), State.FULL);
  }

  // "HEIGHTS become those of a product of p by q bits (1 to 6 each ..): the greatest. BAD."
  private static void productBounds() {
    EDGES.bad("product", x -> x.product(0, 1), x -> x.product(1, 0), x -> x.product(7, 1), x -> x.product(1, 7),
        x -> x.product(-1, -1), x -> x.product(Integer.MIN_VALUE, 1), x -> x.product(Integer.MAX_VALUE, 1),
        x -> x.product(1, Integer.MIN_VALUE), x -> x.product(1, Integer.MAX_VALUE));
    EDGES.answers("1 by 1", 1, x -> x.product(1, 1));
    EDGES.answers("6 by 6", 6, x -> x.product(6, 6));
    EDGES.answers("1 by 6", 1, x -> x.product(1, 6));
    EDGES.answers("6 by 1", 1, x -> x.product(6, 1));
  }

  // "COLUMN c: pairs of places with the sum c": also those that have none.
  private static void productSetsAll() {
    CarryNets x = State.FULL.make();
    x.product(1, 1);
    shows("1 by 1", x, 1);
    x.product(6, 6);
    shows("6 by 6", x, 1, 2, 3, 4, 5, 6, 5, 4, 3, 2, 1);
    x.product(2, 6);
    shows("2 by 6", x, 1, 2, 2, 2, 2, 2, 1);
  }

  // "DOWN by one ROW by a law (0, 1): how many threes it took. BAD; STATE: it is DONE."
  private static void downBounds() {
    EDGES.bad("down", x -> x.down(-1), x -> x.down(2), x -> x.down(Integer.MIN_VALUE), x -> x.down(Integer.MAX_VALUE));
  }

  // "how many threes it took": those of this ROW alone.
  private static void downOneRow() {
    CarryNets x = heap(12);
    EDGES.is("12", x.down(0), 4);
    EDGES.is("4 and 4", x.down(0), 2);
    EDGES.is("2, 3 and 1", x.down(0), 1);
    EDGES.is("2, 1 and 2", x.down(0), STATE);
    x = heap(12, 12);
    EDGES.is("late, to 9", x.down(1), 1 + 2);
    EDGES.is("late, to 6", x.down(1), 1 + 2);
  }

  // "It is DONE, when no HEIGHT is above 2."
  private static void downWhenDone() {
    for (int law = 0; law < 2; law++) {
      int by = law;
      EDGES.leaves("an empty one", STATE, x -> x.down(by), State.FRESH);
      CarryNets x = heap(2, 2, 2, 2, 2, 2, 2, 2, 2, 2, 2, 2);
      EDGES.is("all 2", x.down(by), STATE);
      EDGES.is("all 2", x.downs(by, 0), STATE);
      EDGES.is("DONE", x.heap(22), 1);
      shows("as it was", x, 2, 2, 2, 2, 2, 2, 2, 2, 2, 2, 2, 2);
      x.height(6, 3);
      EDGES.is("not DONE", x.heap(22), 0);
      EDGES.is("one is 3", x.down(by), law == 0 ? 1 : 0);
    }
  }

  // "of each COLUMN as many threes as there are, and a two, if two are left over and its HEIGHT is above 2."
  private static void threesAtOnce() {
    int[] threes = {0, 0, 0, 1, 1, 1, 2, 2, 2, 3, 3, 3, 4};
    int[] twos = {0, 0, 0, 0, 0, 1, 0, 0, 1, 0, 0, 1, 0};
    for (int h = 3; h <= 12; h++) {
      CarryNets x = heap(h);
      EDGES.is("threes of " + h, x.down(0), threes[h]);
      shows("left of " + h, x, h - 2 * threes[h] - twos[h], threes[h] + twos[h]);
    }
    CarryNets x = heap(3, 2, 1, 0, 5);
    EDGES.is("a HEIGHT of 2 has no two", x.down(0), 2);
    shows("what comes in is of the next HEAP", x, 1, 3, 1, 0, 2, 2);
  }

  // "to the greatest T of 2, 3, 4, 6, 9, 13 .. that is below the greatest HEIGHT", "as long as its HEIGHT, with what came
  // into it of the one ahead in this ROW, is above T: a two, if it is T + 1, else a three."
  private static void late() {
    int[] goals = {0, 0, 0, 2, 3, 4, 4, 6, 6, 6, 9, 9, 9};
    for (int h = 3; h <= 12; h++) {
      CarryNets x = heap(h);
      int excess = h - goals[h];
      EDGES.is("threes of " + h, x.down(1), excess / 2);
      shows("left of " + h, x, goals[h], (excess + 1) / 2);
    }
    CarryNets x = heap(3, 2);
    EDGES.is("what came in makes it T + 1: two twos", x.down(1), 0);
    shows("two twos", x, 2, 2, 1);
    x = heap(3, 3);
    EDGES.is("what came in makes it T + 2: a three", x.down(1), 1);
    shows("a two and a three", x, 2, 2, 1);
    x = heap(4, 3, 2);
    EDGES.is("T is 3 for all", x.down(1), 0);
    shows("what came in is not above T at once", x, 3, 3, 3);
    x = heap(2, 2, 3);
    EDGES.is("the greatest is further on", x.down(1), 0);
    shows("those at T stay", x, 2, 2, 2, 1);
  }

  // "What goes above COLUMN 11 is lost."
  private static void lostAboveTheLast() {
    for (int law = 0; law < 2; law++) {
      CarryNets x = new CarryNets();
      x.height(11, 3);
      EDGES.is("lost", x.downs(law, 3), 1);
      EDGES.is("threes", x.down(law), 1 - law);
      EDGES.is("what is left", x.heap(11), 1 + law);
      EDGES.is("none elsewhere", x.heap(23), 1);
      x = new CarryNets();
      x.height(10, 3);
      EDGES.is("none lost", x.downs(law, 3), 0);
      x.down(law);
      EDGES.is("one in the last", x.heap(11), 1);
    }
  }

  // "DOWN by a law until it is DONE, as it would be: .. BAD; STATE: it is DONE."
  private static void downsBounds() {
    EDGES.bad("downs", x -> x.downs(-1, 0), x -> x.downs(2, 0), x -> x.downs(0, -1), x -> x.downs(0, 4), x -> x.downs(1, 4),
        x -> x.downs(Integer.MIN_VALUE, 0), x -> x.downs(Integer.MAX_VALUE, 0), x -> x.downs(0, Integer.MIN_VALUE),
        x -> x.downs(1, Integer.MAX_VALUE));
    for (int what = 0; what < 4; what++) {
      int asked = what;
      EDGES.leaves("an empty one", STATE, x -> x.downs(0, asked), State.FRESH);
      EDGES.leaves("an empty one", STATE, x -> x.downs(1, asked), State.FRESH);
    }
  }

  private static void downsAsItWouldBe() {
    int[] all12 = {12, 12, 12, 12, 12, 12, 12, 12, 12, 12, 12, 12};
    for (int law = 0; law < 2; law++) {
      for (int what = 0; what < 4; what++) {
        int by = law;
        int asked = what;
        EDGES.leaves("all 12", PlainHeap.downs(all12, law)[what], any -> any.downs(by, asked), State.FULL);
      }
    }
    CarryNets x = heap(3);
    EDGES.is("one ROW", x.downs(0, 0), 1);
    EDGES.is("one three", x.downs(0, 1), 1);
    EDGES.is("no two", x.downs(0, 2), 0);
    EDGES.is("late: one ROW", x.downs(1, 0), 1);
    EDGES.is("late: no three", x.downs(1, 1), 0);
    EDGES.is("late: one two", x.downs(1, 2), 1);
    shows("as it was", x, 3);
    x = heap(12);
    EDGES.is("late from 12: by way of 9, 6, 4, 3, 2", x.downs(1, 0), 5);
  }

  // "0 to 11 HEIGHT of a COLUMN, 20 the greatest, 21 all bits, 22 whether it is DONE, 23 COLUMNS that are not empty. BAD."
  private static void heapBounds() {
    EDGES.bad("heap", x -> x.heap(-1), x -> x.heap(12), x -> x.heap(19), x -> x.heap(24), x -> x.heap(Integer.MIN_VALUE),
        x -> x.heap(Integer.MAX_VALUE));
    EDGES.leaves("COLUMN 0", 4, x -> x.heap(0), State.SOME);
    EDGES.leaves("COLUMN 11", 7, x -> x.heap(11), State.SOME);
  }

  private static void heapEmptyAndFull() {
    int[][] due = {{0, 0, 1, 0}, {12, 23, 0, 3}, {12, 144, 0, 12}};
    for (State state : State.values()) {
      for (int what = 0; what < 4; what++) {
        int asked = 20 + what;
        EDGES.leaves("heap " + asked, due[state.ordinal()][what], x -> x.heap(asked), state);
      }
    }
    EDGES.is("2 is DONE", heap(2).heap(22), 1);
    EDGES.is("3 is not", heap(3).heap(22), 0);
    EDGES.is("the last COLUMN counts", heap(0, 0, 0, 0, 0, 0, 0, 0, 0, 0, 0, 1).heap(23), 1);
  }

  // "DIGIT k (0 to 8) of a factor (0 to 65535). BAD -10."
  private static void digitBounds() {
    EDGES.leaves("below 0", -10, x -> x.digit(-1, 0));
    EDGES.leaves("above all", -10, x -> x.digit(65536, 0));
    EDGES.leaves("k below 0", -10, x -> x.digit(0, -1));
    EDGES.leaves("k above 8", -10, x -> x.digit(65535, 9));
    EDGES.leaves("far off", -10, x -> x.digit(Integer.MIN_VALUE, 0));
    EDGES.leaves("far off", -10, x -> x.digit(Integer.MAX_VALUE, 8));
    EDGES.leaves("far off", -10, x -> x.digit(1, Integer.MIN_VALUE));
    EDGES.leaves("far off", -10, x -> x.digit(1, Integer.MAX_VALUE));
  }

  // "digit k is bit 2 k - 1 and bit 2 k, less twice bit 2 k + 1 (bit -1 is 0)."
  private static void digitEnds() {
    for (int k = 0; k <= 8; k++) {
      int place = k;
      EDGES.leaves("of 0", 0, x -> x.digit(0, place));
      EDGES.leaves("of 65535", k == 0 ? -1 : k == 8 ? 1 : 0, x -> x.digit(65535, place));
    }
    int[] lowest = {0, 1, -2, -1};
    int[] second = {0, 1, 1, 2, -2, -1, -1, 0};
    for (int bits = 0; bits < 8; bits++) {
      int v = bits;
      if (bits < 4) {
        EDGES.leaves("DIGIT 0 of " + bits, lowest[bits], x -> x.digit(v, 0));
      }
      EDGES.leaves("DIGIT 1 of bits " + bits, second[bits], x -> x.digit(2 * v, 1));
    }
    EDGES.leaves("DIGIT 7 of the highest bit", -2, x -> x.digit(32768, 7));
    EDGES.leaves("DIGIT 8 of the highest bit", 1, x -> x.digit(32768, 8));
    EDGES.leaves("DIGIT 8 without it", 0, x -> x.digit(32767, 8));
  }

  // "How many DIGITS of a factor are not 0 (what 0; w, k are not looked at), its product with w (0 to 32767) .. BAD"
  private static void timesBounds() {
    EDGES.bad("times", x -> x.times(-1, 0, 0, 0), x -> x.times(65536, 0, 0, 0), x -> x.times(0, 0, 0, -1),
        x -> x.times(0, 0, 0, 2), x -> x.times(-1, 0, 0, 1), x -> x.times(65536, 0, 0, 1), x -> x.times(0, -1, 0, 1),
        x -> x.times(0, 32768, 0, 1), x -> x.times(0, 0, -1, 1), x -> x.times(0, 0, 8, 1),
        x -> x.times(Integer.MIN_VALUE, 0, 0, 0), x -> x.times(Integer.MAX_VALUE, 0, 0, 1),
        x -> x.times(0, Integer.MIN_VALUE, 0, 1), x -> x.times(0, Integer.MAX_VALUE, 0, 1),
        x -> x.times(0, 0, Integer.MIN_VALUE, 1), x -> x.times(0, 0, Integer.MAX_VALUE, 1),
        x -> x.times(0, 0, 0, Integer.MIN_VALUE), x -> x.times(0, 0, 0, Integer.MAX_VALUE));
    EDGES.leaves("no NETS", BAD, x -> x.times(0, 0, 0, 1), State.FRESH);
    EDGES.leaves("beyond the last NET", BAD, x -> x.times(0, 0, 3, 1), State.SOME);
    for (int other : new int[] {-1, 0, 1, 8, 32768, Integer.MIN_VALUE, Integer.MAX_VALUE}) {
      EDGES.leaves("w, k are not looked at", 2, x -> x.times(6, other, other, 0));
    }
    EDGES.leaves("none of 0", 0, x -> x.times(0, 0, 0, 0));
    EDGES.leaves("two of 65535", 2, x -> x.times(65535, 0, 0, 0));
    EDGES.leaves("all eight", 8, x -> x.times(0x5555, 0, 0, 0));
    EDGES.leaves("all nine", 9, x -> x.times(0xaaaa, 0, 0, 0));
  }

  // "STATE (1): NET k is not WHOLE, or not of 32 PLACES."
  private static void timesState() {
    EDGES.leaves("neither", STATE, x -> x.times(3, 5, 1, 1), State.SOME);
    EDGES.leaves("WHOLE, but not of 32", STATE, x -> x.times(3, 5, 2, 1), State.SOME);
    EDGES.leaves("of 32, but not WHOLE", STATE, x -> x.times(3, 5, 1, 1), State.FULL);
    EDGES.leaves("also of 0", STATE, x -> x.times(0, 0, 1, 1), State.FULL);
    EDGES.leaves("BAD ahead of STATE", BAD, x -> x.times(3, 32768, 1, 1), State.SOME, State.FULL);
    EDGES.leaves("BAD ahead of STATE", BAD, x -> x.times(65536, 1, 1, 1), State.SOME, State.FULL);
    EDGES.leaves("what 0 has no STATE", 2, x -> x.times(3, 5, 1, 0));
    CarryNets x = new CarryNets();
    x.net(31, 2);
    EDGES.is("31 PLACES", x.times(3, 5, 0, 1), STATE);
  }

  private static void timesEnds() {
    long[] v = {0, 1, 2, 32768, 65535};
    long[] w = {0, 1, 2, 16384, 32767};
    for (long a : v) {
      for (long b : w) {
        EDGES.leaves("times " + a + " " + b, a * b, x -> x.times((int) a, (int) b, 0, 1), State.SOME, State.FULL);
      }
    }
  }
}
