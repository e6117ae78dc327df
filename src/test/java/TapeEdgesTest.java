/** The edges of promises 2 to 5 (feed, end, text, fault) and of THE TAPE's terms, sentence by sentence. */
public final class TapeEdgesTest {
  private static final Edges EDGES = new Edges();
  private static final int FULL = CarryNets.FULL;

  public static void main(String[] args) {
    feedHighestFirst();
    feedFull();
    endBounds();
    textEmptiesTheTape();
    textRefused();
    textFull();
    faultOfTheLatest();
    tokens();
    tokensThatCanNotStand();
    bounds();
    placesTwice();
    rowsBeyondAll();
    firstMet();
    wholeTape();
    EDGES.close();
  }

  // "Eight bytes come behind THE TAPE, the highest first: how many it has."
  private static void feedHighestFirst() {
    CarryNets x = new CarryNets();
    EDGES.is("onto nothing", x.feed(0x353a342c333b2020L), 8);
    EDGES.is("end(6)", x.end(6), 8);
    EDGES.is("behind 6 bytes", x.feed(0x313b202020202020L), 14);
    EDGES.is("5:4,3;1;", x.text(), 0);
    EDGES.is("PLACES", x.told(0, 0), 5);
    EDGES.is("CELLS of ROW 0", x.told(0, 100), 2);
    EDGES.is("PLACE of ROW 1", x.cell(0, 1, 1, 0), 0);
  }

  // "FULL: more than 240."
  private static void feedFull() {
    CarryNets x = new CarryNets();
    for (int fed = 1; fed <= 29; fed++) {
      EDGES.is("feed", x.feed(0), 8 * fed);
    }
    EDGES.is("feed to just 240", x.feed(0), 240);
    EDGES.is("feed beyond", x.feed(0), FULL);
    EDGES.is("bytes", x.count(3), 240);
    EDGES.is("end(233)", x.end(233), 240);
    EDGES.is("feed to 241", x.feed(0), FULL);
    EDGES.is("bytes", x.count(3), 233);
    EDGES.is("end(232)", x.end(232), 233);
    EDGES.is("feed to 240", x.feed(0), 240);
    EDGES.leaves("feed beyond 240", FULL, any -> any.feed(-1), State.FULL);
    EDGES.leaves("feed beyond 240", FULL, any -> any.feed(Texts.eight("3;", 0)), State.FULL);
  }

  // "THE TAPE keeps its first n bytes: how many it had. BAD."
  private static void endBounds() {
    EDGES.bad("end", x -> x.end(-1), x -> x.end(241), x -> x.end(Integer.MIN_VALUE), x -> x.end(Integer.MAX_VALUE));
    EDGES.leaves("of an empty one", 0, x -> x.end(0), State.FRESH);
    EDGES.leaves("more than none", CarryNets.BAD, x -> x.end(1), State.FRESH);
    EDGES.leaves("all of them", 16, x -> x.end(16), State.SOME);
    EDGES.leaves("one more than there are", CarryNets.BAD, x -> x.end(17), State.SOME);
    EDGES.leaves("all of 240", 240, x -> x.end(240), State.FULL);
    CarryNets x = State.FULL.make();
    EDGES.is("none", x.end(0), 240);
    EDGES.is("bytes", x.count(3), 0);
    EDGES.is("what is gone does not come back", x.end(1), CarryNets.BAD);
    x = State.SOME.make();
    EDGES.is("all but one", x.end(15), 16);
    EDGES.is("its text has no end", x.text(), -25);
  }

  // "THE TAPE (empty then) tells a NET (WHOLE or not): its number. .. -10 less the place of its FAULT."
  private static void textEmptiesTheTape() {
    CarryNets x = new CarryNets();
    EDGES.is("of nothing", x.text(), -10);
    EDGES.is("the end can not stand there", x.fault(), 2);
    EDGES.is("a NET that is not WHOLE", Texts.tell(x, "3:2;"), 0);
    EDGES.is("it is not WHOLE", x.told(0, 3), 0);
    EDGES.is("empty then", x.count(3), 0);
    EDGES.is("a NET that is WHOLE", Texts.tell(x, "3:2,1;2;"), 1);
    EDGES.is("it is WHOLE", x.told(1, 3), 1);
    EDGES.is("a FAULT", Texts.tell(x, "3:2,2;"), -14);
    EDGES.is("empty behind a FAULT, too", x.count(3), 0);
    EDGES.is("no NET of it", x.count(0), 2);
    EDGES.is("nothing is left", x.text(), -10);
    EDGES.is("a NET without ROWS", Texts.tell(x, "2:"), 2);
    EDGES.is("its DEPTH", x.told(2, 1), 0);
  }

  // "what is refused changes nothing (but THE TAPE, as told)": SOME has FAULT 1 already.
  private static void textRefused() {
    CarryNets x = State.SOME.make();
    x.end(0);
    EDGES.is("a FAULT behind two ROWS", Texts.tell(x, "9:8,7;8;x"), -18);
    CarryNets other = State.SOME.make();
    other.end(0);
    EDGES.same("nothing but THE TAPE is changed", x, other);
  }

  // "FULL (THE TAPE stays)", ahead of all FAULTS.
  private static void textFull() {
    EDGES.leaves("text", FULL, CarryNets::text, State.FULL);
    CarryNets x = State.FULL.make();
    x.end(0);
    EDGES.is("FULL ahead of a FAULT", Texts.tell(x, "x"), FULL);
    EDGES.is("it stays", x.count(3), 1);
    EDGES.is("the FAULT stays", x.fault(), 5);
    EDGES.is("drop()", x.drop(), 7);
    EDGES.is("now it is told", x.text(), -10);
    EDGES.is("the FAULT of it", x.fault(), 1);
    x = State.FULL.make();
    EDGES.is("drop()", x.drop(), 7);
    EDGES.is("the eighth", x.text(), 7);
    EDGES.is("PLACES", x.told(7, 0), 9);
    EDGES.is("its last byte is told", x.cell(7, 1, 7, 0), 6);
  }

  // "The FAULT of the latest text() that was not FULL; 0."
  private static void faultOfTheLatest() {
    EDGES.leaves("none yet", 0, CarryNets::fault, State.FRESH);
    EDGES.leaves("the latest", 1, CarryNets::fault, State.SOME);
    EDGES.leaves("the latest", 5, CarryNets::fault, State.FULL);
    CarryNets x = new CarryNets();
    Texts.tell(x, "1:");
    EDGES.is("3", x.fault(), 3);
    x.feed(0);
    x.net(4, 1);
    x.drop();
    EDGES.is("still 3", x.fault(), 3);
    x.text();
    EDGES.is("1", x.fault(), 1);
    Texts.tell(x, "4:1;");
    EDGES.is("0 behind a good one", x.fault(), 0);
  }

  // "TOKENS, each as long as may be, blanks (32) between: NUMBERS (1 or 2 figures) .. 1 no TOKEN, a NUMBER that is too
  // long (its first byte)."
  private static void tokens() {
    good("9:8;", 9);
    good("09:08;", 9);
    good("10:9;", 10);
    good("  10  :  9  ,  8  ;  ", 10);
    good("10:9;8;", 10);
    fault("010:", 0, 1);
    fault("  100:", 2, 1);
    fault("000:", 0, 1);
    fault("9:008;", 2, 1);
    fault("9:8,123;", 4, 1);
    fault("9:8;1234", 4, 1);
    fault("1 0:", 0, 3);
    fault("9:1 0;", 4, 2);
    fault("x", 0, 1);
    fault("   x", 3, 1);
    fault("9x", 1, 1);
    fault("9:.", 2, 1);
    fault("9:8.", 3, 1);
    fault("9:8;-1;", 4, 1);
    for (int sign = 0; sign < 256; sign++) {
      boolean token = sign == ' ' || sign == ':' || sign == ',' || sign == ';' || sign >= '0' && sign <= '9';
      if (!token) {
        fault("9:8" + (char) sign, 3, 1);
      }
    }
  }

  // "2 a TOKEN that can not stand there (or the end: the length)."
  private static void tokensThatCanNotStand() {
    fault(":", 0, 2);
    fault(",", 0, 2);
    fault(";", 0, 2);
    fault("9 9", 2, 2);
    fault("9,", 1, 2);
    fault("9;", 1, 2);
    fault("9::", 2, 2);
    fault("9:,", 2, 2);
    fault("9:;", 2, 2);
    fault("9:8:", 3, 2);
    fault("9:8 7", 4, 2);
    fault("9:8,:", 4, 2);
    fault("9:8,,", 4, 2);
    fault("9:8,;", 4, 2);
    fault("9:8;:", 4, 2);
    fault("9:8;,", 4, 2);
    fault("9:8;;", 4, 2);
    fault("", 0, 2);
    fault("    ", 4, 2);
    fault("9", 1, 2);
    fault("9   ", 4, 2);
    fault("9:8", 3, 2);
    fault("9:8 ", 4, 2);
    fault("9:8,", 4, 2);
    fault("9:8,  ", 6, 2);
    good("9:", 9);
    good("9:  ", 9);
    good("9:8;", 9);
  }

  // "3 a NUMBER out of its bounds (n 2 to 32, a PLACE below n)."
  private static void bounds() {
    fault("0:", 0, 3);
    fault("1:", 0, 3);
    good("2:", 2);
    good("32:", 32);
    fault("33:", 0, 3);
    fault("99:", 0, 3);
    good("2:1;", 2);
    fault("2:2;", 2, 3);
    fault("2:99;", 2, 3);
    good("32:31;", 32);
    fault("32:32;", 3, 3);
    fault("9:8,9;", 4, 3);
    fault("9:8;9;", 4, 3);
  }

  // "4 a PLACE that is there already in the ROW, or whose low(i) is 0 (it)."
  private static void placesTwice() {
    fault("4:0;", 2, 4);
    fault("4:1,0;", 4, 4);
    fault("4:3,3;", 4, 4);
    fault("4:3,2,3;", 6, 4);
    fault("4:1;1;", 4, 4);
    fault("4:1;2;2;", 6, 4);
    good("4:3;3;3;", 4);
    fault("4:3;3;3;3;", 8, 4);
    good("32:31,1;", 32);
    fault("32:31,31;", 6, 4);
  }

  // "5 the 33rd ROW (its first NUMBER, ahead of 3, 4)."
  private static void rowsBeyondAll() {
    int length = Texts.rows(32).length();
    CarryNets x = good(Texts.rows(32), 32);
    EDGES.is("32 ROWS", x.told(0, 1), 32);
    EDGES.is("CELLS of the last", x.told(0, 131), 1);
    EDGES.is("there is no ROW 32", x.told(0, 132), CarryNets.BAD);
    EDGES.is("low(31)", x.told(0, 231), 0);
    EDGES.is("low(30)", x.told(0, 230), 29);
    EDGES.is("the last ROW's CELL takes", x.cell(0, 31, 30, 0), 29);
    good(Texts.rows(32) + "   ", 32);
    fault(Texts.rows(33), length, 5);
    fault(Texts.rows(32) + "  29;", length + 2, 5);
    fault(Texts.rows(32) + "32;", length, 5);
    fault(Texts.rows(32) + "31;", length, 5);
    fault(Texts.rows(32) + "0", length, 5);
    fault(Texts.rows(32) + ";", length, 2);
    fault(Texts.rows(32) + ",", length, 2);
    fault(Texts.rows(32) + "x", length, 1);
    fault(Texts.rows(32) + "123", length, 1);
    fault(Texts.rows(31) + "30,30;", length, 4);
  }

  // "the first met as it is read (a TOKEN is read when the one before has been taken)."
  private static void firstMet() {
    fault("1x", 0, 3);
    fault("33 123", 0, 3);
    fault("9:9x", 2, 3);
    fault("9:0x", 2, 4);
    fault("9:8,8x", 4, 4);
    fault("9:8x8;9", 3, 1);
    fault("9;x", 1, 2);
    fault("9:8;9;x", 4, 3);
  }

  // "THE TAPE has 240 bytes, places from 0.": the first and the last of them.
  private static void wholeTape() {
    fault(" ".repeat(240), 240, 2);
    fault(Texts.spread("", "9", 240), 240, 2);
    fault(Texts.spread("", "x", 240), 239, 1);
    fault(Texts.spread("9:", "9", 240), 239, 3);
    fault(Texts.spread("9:8,", "8", 240), 239, 4);
    fault("1".repeat(240), 0, 1);
    good(Texts.spread("9:", "8;", 240), 9);
    good(Texts.spread("", "9:", 240), 9);
  }

  private static void fault(String text, int place, int fault) {
    CarryNets x = new CarryNets();
    EDGES.is("text " + text, Texts.tell(x, text), -10 - place);
    EDGES.is("fault of " + text, x.fault(), fault);
    EDGES.is("no NET of " + text, x.count(0), 0);
    EDGES.is("tape after " + text, x.count(3), 0);
    EDGES.is("a good one then", Texts.tell(x, "2:1;"), 0);
    EDGES.is("fault() of it", x.fault(), 0);
  }

  private static CarryNets good(String text, int places) {
    CarryNets x = new CarryNets();
    EDGES.is("text " + text, Texts.tell(x, text), 0);
    EDGES.is("fault of " + text, x.fault(), 0);
    EDGES.is("PLACES of " + text, x.told(0, 0), places);
    EDGES.is("tape after " + text, x.count(3), 0);
    return x;
  }
}
