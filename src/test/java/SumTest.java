import java.util.Random;

/** Promises 13, 26, 27: SUMS by a NET, DIGITS of a factor, products made of them. */
public final class SumTest {
  private static final Due DUE = new Due();

  public static void main(String[] args) {
    sumsByLaws();
    sumEdges();
    digits();
    products();
    productEdges();
    DUE.close();
  }

  private static void sumsByLaws() {
    Random random = new Random(13);
    for (int n = 2; n <= 32; n++) {
      CarryNets x = new CarryNets();
      for (int law = 0; law < 5; law++) {
        x.net(n, law);
        PlainNet plain = PlainNet.byLaw(n, law);
        for (int round = 0; round < 12; round++) {
          int a = round == 0 ? -1 : round == 1 ? Integer.MIN_VALUE : random.nextInt();
          int b = round == 0 ? 0 : round == 1 ? -1 : round % 3 == 2 ? ~a ^ 1 << random.nextInt(32) : random.nextInt();
          boolean in = random.nextBoolean();
          String name = "n " + n + " law " + law + " " + a + " " + b + " " + in;
          DUE.is("sum " + name, x.sum(law, a, b, in, 0), plain.sum(a, b, in));
          DUE.is("carries " + name, x.sum(law, a, b, in, 1), plain.carries(a, b, in));
        }
      }
    }
  }

  private static void sumEdges() {
    CarryNets x = new CarryNets();
    x.net(32, 2);
    DUE.is("all ones", x.sum(0, -1, -1, true, 0), 4294967295L);
    DUE.is("all carries", x.sum(0, -1, -1, true, 1), 4294967295L);
    DUE.is("handed on", x.sum(0, -1, 0, true, 1), 4294967295L);
    DUE.is("not made", x.sum(0, -1, 0, false, 1), 0);
    DUE.bad("sum", x.sum(1, 0, 0, false, 0), x.sum(-1, 0, 0, false, 0), x.sum(0, 0, 0, false, 2), x.sum(0, 0, 0, false, -1));
    Texts.tell(x, "3:2;");
    DUE.is("not WHOLE", x.sum(1, 0, 0, false, 0), CarryNets.STATE);
    DUE.bad("BAD ahead of STATE", x.sum(1, 0, 0, false, 2));
    Texts.tell(x, "3:2,1;2;");
    DUE.is("WHOLE by text", x.sum(2, 3, 1, false, 0), 4);
    DUE.is("others bits are not looked at", x.sum(2, 3 + 8, 1 + 16, false, 0), 4);
  }

  private static void digits() {
    CarryNets x = new CarryNets();
    for (int v = 0; v <= 65535; v++) {
      long all = 0;
      int some = 0;
      for (int k = 8; k >= 0; k--) {
        int digit = x.digit(v, k);
        if (digit < -2 || digit > 2) {
          DUE.is("digit(" + v + ", " + k + ")", digit, 0);
        }
        all = 4 * all + digit;
        some += digit != 0 ? 1 : 0;
      }
      DUE.is("digits of " + v, all, v);
      DUE.is("not 0 of " + v, x.times(v, -1, -1, 0), some);
    }
    DUE.is("digit(2, 0)", x.digit(2, 0), -2);
    DUE.is("digit(2, 1)", x.digit(2, 1), 1);
    DUE.is("digit(3, 0)", x.digit(3, 0), -1);
    DUE.is("digit(7, 1)", x.digit(7, 1), 2);
    DUE.is("digit below 0", x.digit(-1, 0), -10);
    DUE.is("digit above all", x.digit(65536, 0), -10);
    DUE.is("digit k", x.digit(1, 9), -10);
    DUE.is("digit k", x.digit(1, -1), -10);
    DUE.is("digit both", x.digit(Integer.MIN_VALUE, Integer.MAX_VALUE), -10);
  }

  private static void products() {
    CarryNets x = new CarryNets();
    for (int law = 0; law < 5; law++) {
      x.net(32, law);
    }
    Random random = new Random(27);
    for (int round = 0; round < 4000; round++) {
      int v = round == 0 ? 65535 : random.nextInt(65536);
      int w = round == 0 ? 32767 : random.nextInt(32768);
      DUE.is("times(" + v + ", " + w + ")", x.times(v, w, round % 5, 1), (long) v * w);
    }
    DUE.is("times(0, 0)", x.times(0, 0, 0, 1), 0);
  }

  private static void productEdges() {
    CarryNets x = new CarryNets();
    x.net(32, 3);
    x.net(31, 3);
    Texts.tell(x, "32:1;");
    DUE.is("32 PLACES", x.times(3, 5, 0, 1), 15);
    DUE.is("31 PLACES", x.times(3, 5, 1, 1), CarryNets.STATE);
    DUE.is("not WHOLE", x.times(3, 5, 2, 1), CarryNets.STATE);
    DUE.is("NET not looked at", x.times(3, 5, 1, 0), 2);
    DUE.is("w, k not looked at", x.times(3, 99999, 99, 0), 2);
    DUE.bad("times", x.times(-1, 0, 0, 1), x.times(65536, 0, 0, 1), x.times(0, -1, 0, 1), x.times(0, 32768, 0, 1),
        x.times(0, 0, 3, 1), x.times(0, 0, -1, 1), x.times(0, 0, 0, 2), x.times(0, 0, 0, -1), x.times(-1, 0, 0, 0),
        x.times(65536, 0, 0, 0), x.times(3, 40000, 1, 1), x.times(70000, 1, 2, 1));
  }
}
