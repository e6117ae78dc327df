/** The edges of promises 16 and 17 (blocks, sizes) and of BLOCKS in the terms, sentence by sentence. */
public final class BlocksEdgesTest {
  private static final Edges EDGES = new Edges();

  public static void main(String[] args) {
    noBlocks();
    twelveAtMost();
    noFigureZero();
    placesInAll();
    kindsAndSkips();
    withinOneBlock();
    fromBlockToBlock();
    choice();
    sizesBounds();
    sizesLeastAndGreatest();
    noneAboveFifteen();
    fewestThenLeast();
    EDGES.close();
  }

  // "BAD: also .. no BLOCKS."
  private static void noBlocks() {
    EDGES.bad("no BLOCKS", x -> x.blocks(0, 0, 1), x -> x.blocks(0, 1, 1));
    EDGES.leaves("one of one", 1, x -> x.blocks(1, 0, 1));
    EDGES.leaves("one of one", 1, x -> x.blocks(1, 1, 1));
  }

  // "told as figures to the base 16 (BLOCK 0 the lowest, 12 at most ..)"
  private static void twelveAtMost() {
    EDGES.leaves("twelve", 11, x -> x.blocks(0x111111111111L, 0, 1));
    EDGES.leaves("twelve by CHOICE", 12, x -> x.blocks(0x111111111111L, 1, 1));
    EDGES.leaves("twelve, the highest of 15", 25, x -> x.blocks(0xf11111111111L, 0, 1));
    EDGES.bad("thirteen", x -> x.blocks(0x1111111111111L, 0, 1), x -> x.blocks(0x1111111111111L, 1, 1),
        x -> x.blocks(1L << 48, 1, 1), x -> x.blocks(1L << 60, 1, 1), x -> x.blocks(Long.MAX_VALUE, 0, 1));
    EDGES.bad("below 0", x -> x.blocks(-1, 0, 1), x -> x.blocks(-1, 1, 1), x -> x.blocks(Long.MIN_VALUE, 1, 1),
        x -> x.blocks(0x8000000000000001L, 1, 1), x -> x.blocks(0xf111111111111111L, 0, 1));
  }

  // "no figure 0 below the highest"
  private static void noFigureZero() {
    EDGES.bad("figure 0", x -> x.blocks(0x10, 0, 1), x -> x.blocks(0x101, 0, 1), x -> x.blocks(0x110, 1, 1),
        x -> x.blocks(0x1000, 1, 1), x -> x.blocks(0x101111111111L, 0, 1), x -> x.blocks(0x111111111110L, 0, 1));
  }

  // "BAD: also more than 32 PLACES in all"
  private static void placesInAll() {
    EDGES.leaves("32", 15 + 1 + 14, x -> x.blocks(0xf2f, 0, 1));
    EDGES.leaves("32 by CHOICE", 17, x -> x.blocks(0xf2f, 1, 1));
    EDGES.leaves("32 of twelve", 13, x -> x.blocks(0x333333333311L, 1, 1));
    EDGES.bad("33", x -> x.blocks(0xf3f, 0, 1), x -> x.blocks(0xf3f, 1, 1), x -> x.blocks(0xff3, 0, 1),
        x -> x.blocks(0x333333333312L, 1, 1), x -> x.blocks(0xffffffffffffL, 1, 1));
  }

  // "kind 0 SKIP with s (1 to 9), 1 CHOICE (s is not looked at). BAD"
  private static void kindsAndSkips() {
    EDGES.bad("kind", x -> x.blocks(1, -1, 1), x -> x.blocks(1, 2, 1), x -> x.blocks(1, Integer.MIN_VALUE, 1),
        x -> x.blocks(1, Integer.MAX_VALUE, 1));
    EDGES.bad("s", x -> x.blocks(1, 0, 0), x -> x.blocks(1, 0, 10), x -> x.blocks(1, 0, -1),
        x -> x.blocks(1, 0, Integer.MIN_VALUE), x -> x.blocks(1, 0, Integer.MAX_VALUE));
    EDGES.leaves("s of 1", 2 + 1 + 1, x -> x.blocks(0x212, 0, 1));
    EDGES.leaves("s of 9", 2 + 9 + 1, x -> x.blocks(0x212, 0, 9));
    for (int s : new int[] {0, 1, 9, 10, -1, Integer.MIN_VALUE, Integer.MAX_VALUE}) {
      EDGES.leaves("s is not looked at", 4, x -> x.blocks(0x212, 1, s));
    }
  }

  // "or within one BLOCK (its size)"
  private static void withinOneBlock() {
    EDGES.leaves("one alone", 15, x -> x.blocks(0xf, 0, 9));
    EDGES.leaves("the next is passed in nothing", 7, x -> x.blocks(0x17, 0, 9));
    EDGES.leaves("the one ahead adds 1, the last PLACE takes it", 7, x -> x.blocks(0x71, 0, 9));
  }

  // "it begins at the first PLACE of a BLOCK, goes through this one (its size), over those between (s each), through the
  // last one as far as its last PLACE (its size less 1)"
  private static void fromBlockToBlock() {
    EDGES.leaves("none between", 4 + 3, x -> x.blocks(0x44, 0, 9));
    EDGES.leaves("one between", 4 + 5 + 3, x -> x.blocks(0x414, 0, 5));
    EDGES.leaves("ten between", 1 + 9 * 10, x -> x.blocks(0x111111111111L, 0, 9));
    EDGES.leaves("from one further on", 9 + 1 + 8, x -> x.blocks(0x9191, 0, 1));
    EDGES.leaves("to one ahead of the last", 9 + 1 + 8, x -> x.blocks(0x1919, 0, 1));
  }

  // "BLOCK 0's carry is there at its size, that of each further one at 1 more than the later one of the carry ahead and
  // its own size"
  private static void choice() {
    EDGES.leaves("one alone", 15, x -> x.blocks(0xf, 1, 1));
    EDGES.leaves("the carry ahead is the later", 6, x -> x.blocks(0x15, 1, 1));
    EDGES.leaves("its own size is the later", 6, x -> x.blocks(0x51, 1, 1));
    EDGES.leaves("both at once", 6, x -> x.blocks(0x55, 1, 1));
    EDGES.leaves("each 1 greater", 5, x -> x.blocks(0x4322, 1, 1));
  }

  // "BLOCKS for n PLACES .. BAD."
  private static void sizesBounds() {
    EDGES.bad("sizes", x -> x.sizes(0, 0, 1, 0), x -> x.sizes(33, 0, 1, 0), x -> x.sizes(0, 1, 1, 1),
        x -> x.sizes(33, 1, 1, 1), x -> x.sizes(8, -1, 1, 0), x -> x.sizes(8, 2, 1, 0), x -> x.sizes(8, 0, 0, 0),
        x -> x.sizes(8, 0, 10, 0), x -> x.sizes(8, 0, 1, -1), x -> x.sizes(8, 0, 1, 2), x -> x.sizes(8, 1, 1, 2),
        x -> x.sizes(Integer.MIN_VALUE, 0, 1, 0), x -> x.sizes(Integer.MAX_VALUE, 1, 1, 0),
        x -> x.sizes(8, Integer.MIN_VALUE, 1, 0), x -> x.sizes(8, 0, Integer.MIN_VALUE, 0),
        x -> x.sizes(8, 0, Integer.MAX_VALUE, 1), x -> x.sizes(8, 1, 1, Integer.MIN_VALUE));
    for (int s : new int[] {0, 1, 9, 10, -1, Integer.MIN_VALUE, Integer.MAX_VALUE}) {
      EDGES.leaves("s is not looked at", 0x54322, x -> x.sizes(16, 1, s, 1));
    }
  }

  private static void sizesLeastAndGreatest() {
    for (int s : new int[] {1, 9}) {
      EDGES.leaves("1 PLACE", 1, x -> x.sizes(1, 0, s, 0));
      EDGES.leaves("1 PLACE", 1, x -> x.sizes(1, 0, s, 1));
      EDGES.leaves("2 PLACES", 0x11, x -> x.sizes(2, 0, s, 1));
    }
    EDGES.leaves("1 PLACE by CHOICE", 1, x -> x.sizes(1, 1, 1, 1));
    EDGES.leaves("2 PLACES by CHOICE", 2, x -> x.sizes(2, 1, 1, 1));
    EDGES.leaves("32 PLACES by CHOICE", 9, x -> x.sizes(32, 1, 1, 0));
    EDGES.leaves("32 PLACES by CHOICE", 0x676544, x -> x.sizes(32, 1, 1, 1));
    EDGES.leaves("32 PLACES, s of 2", 13, x -> x.sizes(32, 0, 2, 0));
  }

  // "none above 15": 8, 16 and 7 PLACES would have a WORST of 23.
  private static void noneAboveFifteen() {
    EDGES.leaves("one of 15", 0x6f6, x -> x.sizes(27, 0, 9, 1));
    EDGES.leaves("none of 16", 24, x -> x.sizes(31, 0, 9, 0));
    EDGES.leaves("none of 16", 0x6fa, x -> x.sizes(31, 0, 9, 1));
  }

  // "with the least WORST; of several the fewest, then the least figures (as a number)"
  private static void fewestThenLeast() {
    EDGES.leaves("3 PLACES: 21, 12 and 111 have a WORST of 2", 0x12, x -> x.sizes(3, 0, 1, 1));
    EDGES.leaves("4 PLACES: 121 alone has a WORST of 2", 0x121, x -> x.sizes(4, 0, 1, 1));
    EDGES.leaves("5 PLACES by CHOICE: 23, 32 and others have a WORST of 4", 0x23, x -> x.sizes(5, 1, 1, 1));
    EDGES.leaves("3 PLACES by CHOICE: 3, 12 and 21 have a WORST of 3", 3, x -> x.sizes(3, 1, 1, 1));
  }
}
