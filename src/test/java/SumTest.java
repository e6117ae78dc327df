import java.util.Random;

/** Promises 13, 26, 27: SUMS led CELL by CELL, DIGITS of all factors, products. */
public final class SumTest {
  private static final Due DUE = new Due();

  public static void main(String[] args) {
    sumsByLaws();
    digits();
    products();
    DUE.close();
  }

  private static void sumsByLaws() {
    Random random = new Random(13);
    for (int n = 2; n <= 32; n++) {
      CarryNets x = new CarryNets();
      for (int law = 0; law < 5; law++) {
        x.net(n, law);
        PlainNet plain = PlainNet.byLaw(n, law);
        for (int round = 0; round < 12; round++) {
          int a = round == 0 ? -1 : round == 1 ? Integer.MIN_VALUE : random.nextInt();
          int b = round == 0 ? 0 : round == 1 ? -1 : round % 3 == 2 ? ~a ^ 1 << random.nextInt(32) : random.nextInt();
          boolean in = random.nextBoolean();
          String name = "n " + n + " law " + law + " " + a + " " + b + " " + in;
          DUE.is("sum " + name, x.sum(law, a, b, in, 0), plain.sum(a, b, in));
          DUE.is("carries " + name, x.sum(law, a, b, in, 1), plain.carries(a, b, in));
        }
      }
    }
  }

  private static void digits() {
    for (int v = 0; v <= 65535; v++) {
      CarryNets x = new CarryNets();
      long all = 0;
      int some = 0;
      for (int k = 8; k >= 0; k--) {
        int digit = x.digit(v, k);
        if (digit < -2 || digit > 2) {
          DUE.is("digit(" + v + ", " + k + ")", digit, 0);
        }
        all = 4 * all + digit;
        some += digit != 0 ? 1 : 0;
      }
      DUE.is("digits of " + v, all, v);
      DUE.is("not 0 of " + v, x.times(v, -1, -1, 0), some);
    }
  }

  private static void products() {
    Random random = new Random(27);
    for (int round = 0; round < 4000; round++) {
      CarryNets x = new CarryNets();
      x.net(32, round % 5);
      int v = random.nextInt(65536);
      int w = random.nextInt(32768);
      DUE.is("times(" + v + ", " + w + ")", x.times(v, w, 0, 1), (long) v * w);
    }
  }
}
