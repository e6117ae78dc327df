import java.util.Random;

/** Promises 10, 11, 12: C and F, STARTS, TIMES. */
public final class ClockTest {
  private static final Due DUE = new Due();

  public static void main(String[] args) {
    edges();
    ordinary();
    someNets();
    DUE.close();
  }

  private static void edges() {
    CarryNets x = new CarryNets();
    DUE.bad("pace", x.pace(0, 0), x.pace(10, 0), x.pace(1, -1), x.pace(1, 10), x.pace(-1, 5), x.pace(5, 99));
    DUE.is("C stays", x.count(1), 2);
    DUE.is("F stays", x.count(2), 1);
    DUE.is("pace(9, 9)", x.pace(9, 9), 1);
    DUE.is("C", x.count(1), 9);
    DUE.is("F", x.count(2), 9);
    DUE.is("pace(1, 0)", x.pace(1, 0), 1);
    DUE.is("C", x.count(1), 1);
    DUE.is("F", x.count(2), 0);
    DUE.bad("start", x.start(-1, 0), x.start(32, 0), x.start(0, -1), x.start(0, 100), x.start(Integer.MIN_VALUE, 1));
    DUE.is("start(31, 99)", x.start(31, 99), 0);
    DUE.is("start(31, 0)", x.start(31, 0), 99);
    DUE.is("start(0, 7)", x.start(0, 7), 0);
    x.net(4, 1);
    DUE.bad("time", x.time(0, 4), x.time(0, -1), x.time(0, -2), x.time(0, -3), x.time(0, -5), x.time(1, 0), x.time(-1, 0),
        x.time(1, CarryNets.NONE));
  }

  private static void ordinary() {
    CarryNets x = new CarryNets();
    x.net(8, 1);
    DUE.is("halves", x.time(0, CarryNets.NONE), 10);
    DUE.is("PLACE 0", x.time(0, 0), 0);
    DUE.is("PLACE 1", x.time(0, 1), 2);
    x.start(0, 50);
    DUE.is("late START", x.time(0, 1), 52);
    x.start(31, 99);
    DUE.is("a PLACE above the NET", x.time(0, CarryNets.NONE), 60);
    x.net(32, 0);
    DUE.is("START of the last", x.time(1, 31), 50 + 2 * 31);
    x.start(0, 0);
    DUE.is("START of the last", x.time(1, 31), 101);
    DUE.is("the latest", x.time(1, CarryNets.NONE), 101);
  }

  private static void someNets() {
    Random random = new Random(12);
    for (int round = 0; round < 300; round++) {
      CarryNets x = new CarryNets();
      PlainNet plain = random.nextBoolean() ? PlainNet.some(random, 2 + random.nextInt(31), 5)
          : PlainNet.byLaw(2 + random.nextInt(31), random.nextInt(5));
      if (Texts.tell(x, plain.text().length() > 240 ? "?" : plain.text()) != 0) {
        continue;
      }
      int c = 1 + random.nextInt(9);
      int f = random.nextInt(10);
      int[] starts = new int[32];
      x.pace(c, f);
      for (int i = 0; i < 32; i++) {
        starts[i] = random.nextInt(100);
        x.start(i, starts[i]);
      }
      int[] times = plain.times(c, f, starts);
      int latest = 0;
      for (int i = 0; i < plain.n; i++) {
        DUE.is(plain.text() + " at " + i, x.time(0, i), times[i]);
        latest = Math.max(latest, times[i]);
      }
      DUE.is(plain.text() + " the latest", x.time(0, CarryNets.NONE), latest);
    }
  }
}
