import java.util.ArrayList;
import java.util.Arrays;
import java.util.List;
import java.util.Random;
import java.util.regex.Matcher;
import java.util.regex.Pattern;

/** Promises 2, 3, 4, 5: THE TAPE, texts and their FAULTS. */
public final class TapeTest {
  private static final Due DUE = new Due();
  private static final Pattern TOKEN = Pattern.compile(" *(?:([0-9]+)|([:,;])|($)|(.))", Pattern.DOTALL);

  public static void main(String[] args) {
    feedAndEnd();
    faults();
    rowsBeyondAll();
    fullKeepsTheTape();
    someTexts();
    DUE.close();
  }

  private static void feedAndEnd() {
    CarryNets x = new CarryNets();
    for (int fed = 1; fed <= 30; fed++) {
      DUE.is("feed", x.feed(fed), 8 * fed);
    }
    DUE.is("the 31st", x.feed(0), CarryNets.FULL);
    DUE.is("count(3)", x.count(3), 240);
    DUE.bad("end", x.end(241), x.end(-1), x.end(Integer.MAX_VALUE), x.end(Integer.MIN_VALUE));
    DUE.is("end(233)", x.end(233), 240);
    DUE.is("feed beyond 240", x.feed(0), CarryNets.FULL);
    DUE.bad("end(234)", x.end(234));
    DUE.is("end(232)", x.end(232), 233);
    DUE.is("feed to 240", x.feed(0), 240);
    DUE.is("end(0)", x.end(0), 240);
    DUE.is("end(0)", x.end(0), 0);
    DUE.is("count(3)", x.count(3), 0);
    DUE.bad("end(1)", x.end(1));
    Texts.feed(x, "3:1;");
    Texts.feed(x, "2;");
    DUE.is("text in two parts", x.text(), 0);
    DUE.is("CELLS", x.told(0, 2), 2);
    DUE.is("empty then", x.count(3), 0);
  }

  private static void faults() {
    fault("", 0, 2);
    fault("   ", 3, 2);
    fault("4", 1, 2);
    fault("4  ", 3, 2);
    fault(":", 0, 2);
    fault("4,", 1, 2);
    fault("1:", 0, 3);
    fault("0:", 0, 3);
    fault("33:", 0, 3);
    fault("99", 0, 3);
    fault("1x", 0, 3);
    fault("004:", 0, 1);
    fault(" 100", 1, 1);
    fault("4 4:", 2, 2);
    fault("4:123", 2, 1);
    fault("4:1 123", 4, 1);
    fault("4:1 2;", 4, 2);
    fault("4::", 2, 2);
    fault("4:;", 2, 2);
    fault("4:1;;", 4, 2);
    fault("4:1,", 4, 2);
    fault("4:1,,", 4, 2);
    fault("4:1", 3, 2);
    fault("4:4;", 2, 3);
    fault("4:4,1;", 2, 3);
    fault("4:4x", 2, 3);
    fault("4:0;", 2, 4);
    fault("4:2,3,2;", 6, 4);
    fault("4:1;1;", 4, 4);
    fault("4:1;2;3;  3;", 10, 4);
    fault("4:1;\t2;", 4, 1);
    fault("4:1;.", 4, 1);
    fault("4:1;-2", 4, 1);
    fault("4:" + (char) 200, 2, 1);
    fault("4:" + (char) 0, 2, 1);
    fault("4:" + (char) 0x131, 2, 1);
    good("4:");
    good("04:03;");
    good("  32  :  31 , 1 ;  ");
    good("2:1;");
  }

  private static void fault(String text, int place, int fault) {
    CarryNets x = new CarryNets();
    DUE.is("text " + text, Texts.tell(x, text), -10 - place);
    DUE.is("fault of " + text, x.fault(), fault);
    DUE.is("no NET of " + text, x.count(0), 0);
    DUE.is("tape after " + text, x.count(3), 0);
    DUE.is("a good one then", Texts.tell(x, "2:1;"), 0);
    DUE.is("fault() of it", x.fault(), 0);
  }

  private static void good(String text) {
    CarryNets x = new CarryNets();
    DUE.is("text " + text, Texts.tell(x, text), 0);
    DUE.is("fault of " + text, x.fault(), 0);
    DUE.is("tape after " + text, x.count(3), 0);
  }

  // 32 ROWS are read, and the 33rd is FAULT 5 ahead of 3 and 4, but behind 1 and 2.
  private static void rowsBeyondAll() {
    StringBuilder rows = new StringBuilder("32:");
    for (int r = 0; r < 31; r++) {
      rows.append("31;");
    }
    rows.append("30;");
    int length = rows.length();
    good(rows.toString());
    good(rows + "  ");
    fault(rows + "29;", length, 5);
    fault(rows + " 29", length + 1, 5);
    fault(rows + "32", length, 5);
    fault(rows + "31;", length, 5);
    fault(rows + "0", length, 5);
    fault(rows + ";", length, 2);
    fault(rows + "x", length, 1);
    fault(rows + "123", length, 1);
    CarryNets x = new CarryNets();
    Texts.tell(x, rows.toString());
    DUE.is("DEPTH", x.told(0, 1), 32);
    DUE.is("CELLS of the last", x.told(0, 131), 1);
    DUE.bad("no ROW 32", x.told(0, 132));
    DUE.is("low(31)", x.told(0, 231), 0);
    DUE.is("low(30)", x.told(0, 230), 29);
  }

  private static void fullKeepsTheTape() {
    CarryNets x = new CarryNets();
    Texts.tell(x, "4:x");
    for (int k = 0; k < 8; k++) {
      x.net(2, 0);
    }
    Texts.feed(x, "3:1;2;");
    DUE.is("FULL", x.text(), CarryNets.FULL);
    DUE.is("it stays", x.count(3), 6);
    DUE.is("the fault stays", x.fault(), 1);
    x.drop();
    DUE.is("then it is told", x.text(), 7);
    DUE.is("fault", x.fault(), 0);
    DUE.is("places", x.told(7, 0), 3);
  }

  private static void someTexts() {
    Random random = new Random(4);
    String signs = "0123456789::,,;;;  x";
    for (int round = 0; round < 20000; round++) {
      StringBuilder text = new StringBuilder(PlainNet.some(random, 2 + random.nextInt(9), random.nextInt(4)).text());
      for (int change = random.nextInt(4); change > 0; change--) {
        int at = random.nextInt(text.length());
        char sign = signs.charAt(random.nextInt(signs.length()));
        if (random.nextInt(3) == 0) {
          text.setCharAt(at, sign);
        } else {
          text.insert(at, sign);
        }
      }
      CarryNets x = new CarryNets();
      int[] due = dueOf(text.toString());
      DUE.is("text " + text, Texts.tell(x, text.toString()), due[0]);
      DUE.is("fault of " + text, x.fault(), due[1]);
    }
  }

  /** The answer and the FAULT, by all TOKENS and a state for each. */
  private static int[] dueOf(String text) {
    Matcher matcher = TOKEN.matcher(text);
    int n = -1;
    String before = "";
    List<Integer> row = new ArrayList<>();
    PlainNet net = null;
    while (matcher.find()) {
      int group = matcher.group(1) != null ? 1 : matcher.group(2) != null ? 2 : matcher.group(3) != null ? 3 : 4;
      int at = group == 3 ? text.length() : matcher.start(group);
      String token = matcher.group(group);
      if (group == 4 || group == 1 && token.length() > 2) {
        return new int[] {-10 - at, 1};
      }
      String kind = group == 1 ? "N" : group == 3 ? "E" : token;
      String mayStand;
      switch (before) {
        case "": mayStand = "N"; break;
        case "N": mayStand = net == null ? ":" : ",;"; break;
        case ",": mayStand = "N"; break;
        default: mayStand = "NE";
      }
      if (!mayStand.contains(kind)) {
        return new int[] {-10 - at, 2};
      }
      if (kind.equals("E")) {
        return new int[] {0, 0};
      }
      if (kind.equals("N")) {
        int value = Integer.parseInt(token);
        if (net == null) {
          if (value < 2 || value > 32) {
            return new int[] {-10 - at, 3};
          }
          n = value;
        } else if (value >= n) {
          return new int[] {-10 - at, 3};
        } else if (row.contains(value) || net.lows(net.rows.size())[value] == 0) {
          return new int[] {-10 - at, 4};
        } else {
          row.add(value);
        }
      } else if (kind.equals(":")) {
        net = new PlainNet(n);
      } else if (kind.equals(";")) {
        net.add(new java.util.TreeSet<>(row));
        row.clear();
      }
      before = kind;
    }
    throw new IllegalStateException(text + Arrays.asList(before));
  }
}
