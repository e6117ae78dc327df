/** States in which edges are looked at. */
enum State {
  /** A new object. */
  FRESH,
  /** Some of everything: NET 0 is WHOLE and has 32 PLACES, NET 1 has 4 and is not WHOLE, SHEET 3 is nothing. */
  SOME,
  /** As much as there may be: 8 NETS (0 and 1 have 32 PLACES, 1 is not WHOLE), THE TAPE with 240 bytes, the rest likewise. */
  FULL;

  CarryNets make() {
    CarryNets x = new CarryNets();
    if (this == SOME) {
      fillSome(x);
    } else if (this == FULL) {
      fillAll(x);
    }
    return x;
  }

  private static void fillSome(CarryNets x) {
    x.net(32, 2);
    Texts.tell(x, "4:3;1;");
    x.made(5, 3, 2);
    Texts.tell(x, "4:1;x");
    Texts.feed(x, "6:1,3,5;3;5;2,4;");
    x.pace(3, 4);
    x.start(0, 5);
    x.start(2, 17);
    x.start(31, 99);
    x.height(0, 4);
    x.height(3, 12);
    x.height(11, 7);
    for (int lane = 0; lane < 3; lane++) {
      x.sheet(lane, lane, 2 + lane);
      x.lay(lane, 0, 5 + lane);
      x.lay(lane, 1, 12);
    }
    x.lay(2, 3, -1);
  }

  private static void fillAll(CarryNets x) {
    x.net(32, 0);
    Texts.tell(x, "32:31;");
    Texts.tell(x, Texts.rows(33));
    for (int k = 2; k < 8; k++) {
      x.net(k, k % 5);
    }
    Texts.feed(x, Texts.spread("9:8,6,4,2;", "7;", 240));
    x.pace(9, 9);
    for (int i = 0; i < 32; i += 3) {
      x.start(i, 99);
    }
    for (int c = 0; c < 12; c++) {
      x.height(c, 12);
    }
    for (int k = 0; k < 4; k++) {
      x.sheet(k, k % 3, 60);
      x.lay(k, 0, 12);
      x.lay(k, 59, 11);
    }
  }
}
