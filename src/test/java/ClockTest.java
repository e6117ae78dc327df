import java.util.Random;

/** Promises 10, 11, 12: TIMES of some NETS with some C, F and STARTS, compared with the plain form. */
public final class ClockTest {
  private static final Due DUE = new Due();

  public static void main(String[] args) {
    Random random = new Random(12);
    for (int round = 0; round < 300; round++) {
      PlainNet plain = random.nextBoolean() ? PlainNet.some(random, 2 + random.nextInt(31), 5)
          : PlainNet.byLaw(2 + random.nextInt(31), random.nextInt(5));
      if (plain.text().length() <= 240) {
        compare(plain, 1 + random.nextInt(9), random.nextInt(10), random.ints(32, 0, 100).toArray());
      }
    }
    DUE.close();
  }

  private static void compare(PlainNet plain, int c, int f, int[] starts) {
    CarryNets x = new CarryNets();
    DUE.is(plain.text(), Texts.tell(x, plain.text()), 0);
    x.pace(c, f);
    for (int i = 0; i < 32; i++) {
      x.start(i, starts[i]);
    }
    int[] times = plain.times(c, f, starts);
    int latest = 0;
    for (int i = 0; i < plain.n; i++) {
      DUE.is(plain.text() + " at " + i, x.time(0, i), times[i]);
      latest = Math.max(latest, times[i]);
    }
    DUE.is(plain.text() + " the latest", x.time(0, CarryNets.NONE), latest);
  }
}
