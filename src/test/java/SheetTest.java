/** Promises 28 to 31: SHEETS, their FAULTS, HEIGHTS read from them, what is counted. */
public final class SheetTest {
  private static final Due DUE = new Due();

  public static void main(String[] args) {
    sheets();
    lanes();
    heights();
    refusedChangesNothing();
    counts();
    DUE.close();
  }

  private static void sheets() {
    CarryNets x = new CarryNets();
    DUE.bad("sheet", x.sheet(-1, 0, 1), x.sheet(4, 0, 1), x.sheet(0, -1, 1), x.sheet(0, 3, 1), x.sheet(0, 0, 61),
        x.sheet(4, 0, -1), x.sheet(0, 3, -1), x.sheet(-1, 0, Integer.MIN_VALUE), x.sheet(0, 0, Integer.MAX_VALUE));
    DUE.is("SIZE", x.sheet(0, 0, -1), -14);
    DUE.is("SIZE", x.sheet(3, 2, Integer.MIN_VALUE), -14);
    DUE.is("still nothing", x.count(4), CarryNets.NONE);
    for (int k = 0; k < 4; k++) {
      DUE.is("NULL", x.lay(k, 0, 1), -11);
      DUE.is("NULL ahead of INDEX", x.lay(k, -1, 1), -11);
      DUE.is("60 CELLS", x.sheet(k, k % 3, 60), 1);
      DUE.is("the last", x.lay(k, 59, 1), 1);
      DUE.is("INDEX", x.lay(k, 60, 1), -12);
      DUE.is("INDEX", x.lay(k, -1, 1), -12);
      DUE.is("no CELLS", x.sheet(k, k % 3, 0), 1);
      DUE.is("INDEX", x.lay(k, 0, 1), -12);
    }
    DUE.bad("lay", x.lay(-1, 0, 0), x.lay(4, 0, 0), x.lay(Integer.MAX_VALUE, -1, 0));
    DUE.is("SIZE again", x.sheet(0, 0, -2), -14);
    DUE.is("it stays", x.count(4), 0);
  }

  // v's lowest bits alone are kept, and read with their sign.
  private static void lanes() {
    int[] values = {256 + 7, 65536 + 7, 7, 255, 65535, -1, 128, 32768, Integer.MIN_VALUE + 3};
    for (int lane = 0; lane < 3; lane++) {
      for (int v : values) {
        CarryNets x = new CarryNets();
        x.sheet(2, lane, 1);
        x.lay(2, 0, v);
        int kept = lane == 0 ? (byte) v : lane == 1 ? (short) v : v;
        DUE.is("lane " + lane + " v " + v, x.heights(2, lane, 0, 1), kept < 0 || kept > 12 ? -20 : kept);
        for (int other = 0; other < 3; other++) {
          if (other != lane) {
            DUE.is("CAST", x.heights(2, other, 0, 1), -13);
            DUE.is("CAST ahead of INDEX", x.heights(2, other, -1, 1), -13);
          }
        }
      }
    }
  }

  private static void heights() {
    CarryNets x = new CarryNets();
    DUE.is("NULL", x.heights(0, 0, 0, 1), -11);
    DUE.is("NULL ahead of INDEX", x.heights(0, 2, -5, 12), -11);
    x.sheet(0, 2, 14);
    for (int i = 0; i < 14; i++) {
      x.lay(0, i, i);
    }
    for (int c = 0; c < 12; c++) {
      x.height(c, 5);
    }
    DUE.is("one COLUMN", x.heights(0, 2, 3, 1), 3);
    DUE.is("COLUMN 0", x.heap(0), 3);
    DUE.is("others become 0", x.heap(21), 3);
    DUE.is("twelve", x.heights(0, 2, 1, 12), 78);
    DUE.is("COLUMN 11", x.heap(11), 12);
    DUE.is("13 is no HEIGHT", x.heights(0, 2, 2, 12), -31);
    DUE.is("13 ahead of INDEX", x.heights(0, 2, 12, 3), -21);
    x.lay(0, 13, 0);
    DUE.is("INDEX behind the last", x.heights(0, 2, 12, 3), -12);
    x.lay(0, 12, -1);
    DUE.is("below 0", x.heights(0, 2, 12, 3), -20);
    DUE.is("below 0 further on", x.heights(0, 2, 9, 4), -23);
    DUE.is("INDEX", x.heights(0, 2, 14, 1), -12);
    DUE.is("INDEX below 0", x.heights(0, 2, -1, 2), -12);
    DUE.is("INDEX far off", x.heights(0, 2, Integer.MAX_VALUE, 12), -12);
    DUE.is("INDEX far off", x.heights(0, 2, Integer.MIN_VALUE, 12), -12);
    DUE.is("none changed", x.heap(21), 78);
    DUE.bad("heights", x.heights(-1, 2, 0, 1), x.heights(4, 2, 0, 1), x.heights(0, -1, 0, 1), x.heights(0, 3, 0, 1),
        x.heights(0, 2, 0, 0), x.heights(0, 2, 0, 13), x.heights(0, 2, 0, -1), x.heights(1, 0, 0, 13));
    x.sheet(0, 2, 14);
    DUE.is("CELLS 0 again", x.heights(0, 2, 2, 12), 0);
  }

  private static void refusedChangesNothing() {
    CarryNets x = new CarryNets();
    x.sheet(1, 0, 2);
    x.lay(1, 0, 9);
    x.lay(1, 1, 4);
    x.sheet(1, 0, -1);
    x.sheet(1, 3, 2);
    x.sheet(1, 1, 61);
    x.lay(1, 2, 1);
    DUE.is("as it was", x.heights(1, 0, 0, 2), 13);
    x.sheet(1, 0, 3);
    DUE.is("new CELLS are 0", x.heights(1, 0, 0, 3), 0);
  }

  private static void counts() {
    CarryNets x = new CarryNets();
    DUE.bad("count", x.count(-1), x.count(5), x.count(Integer.MAX_VALUE));
    x.sheet(1, 0, 9);
    DUE.is("SHEET 0 is nothing", x.count(4), CarryNets.NONE);
    x.sheet(0, 1, 7);
    DUE.is("its CELLS", x.count(4), 7);
    x.feed(0);
    x.net(5, 1);
    x.pace(7, 8);
    int[] due = {1, 7, 8, 8, 7};
    for (int what = 0; what < 5; what++) {
      DUE.is("count(" + what + ")", x.count(what), due[what]);
    }
  }
}
