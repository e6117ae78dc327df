import java.lang.management.ManagementFactory;
import java.util.Random;

/** Any call with any arguments in any state: none throws, none fails to end, none makes objects. */
public final class AnyCallTest {
  private static final int[] EDGES = {0, 1, -1, 2, 3, 4, 5, 6, 7, 8, -4, 9, 10, 11, 12, 13, 31, 32, 33, 59, 60, 61, 99, 100,
    101, 131, 132, 200, 231, 232, 239, 240, 241, 255, 256, 32767, 32768, 65535, 65536, Integer.MAX_VALUE, Integer.MIN_VALUE};
  private static final Due DUE = new Due();
  private static final Random RANDOM = new Random(512);

  public static void main(String[] args) {
    long answers = 0;
    for (int round = 0; round < 600; round++) {
      CarryNets x = new CarryNets();
      long before = allocated();
      for (int call = 0; call < 512; call++) {
        answers += any(x, RANDOM.nextInt(31));
      }
      // The first round has what the machine makes for itself at the first use of a class.
      boolean few = round == 0 || allocated() - before < 4000;
      DUE.is("objects made in round " + round + " are few", few ? 1 : 0, 1);
    }
    DUE.is("they answered", answers != 0 ? 1 : 0, 1);
    DUE.close();
  }

  private static long allocated() {
    return ((com.sun.management.ThreadMXBean) ManagementFactory.getThreadMXBean()).getCurrentThreadAllocatedBytes();
  }

  private static int some() {
    int kind = RANDOM.nextInt(8);
    return kind == 0 ? RANDOM.nextInt() : kind < 4 ? EDGES[RANDOM.nextInt(EDGES.length)] : RANDOM.nextInt(9);
  }

  private static long someText() {
    String signs = "1234567890:,;  ";
    long v = 0;
    for (int b = 0; b < 8; b++) {
      v = v << 8 | signs.charAt(RANDOM.nextInt(signs.length()));
    }
    return RANDOM.nextInt(8) == 0 ? RANDOM.nextLong() : RANDOM.nextBoolean() ? v : 0x343a312c323b2020L;
  }

  private static long someFigures() {
    return RANDOM.nextLong() >>> RANDOM.nextInt(64);
  }

  private static long any(CarryNets x, int which) {
    switch (which) {
      case 0: return x.feed(someText());
      case 1: return x.end(some());
      case 2: return x.text();
      case 3: return x.fault();
      case 4: return x.net(some(), some());
      case 5: return x.drop();
      case 6: return x.told(some(), some());
      case 7: return x.cell(some(), some(), some(), some());
      case 8: return x.pace(some(), some());
      case 9: return x.start(some(), some());
      case 10: return x.time(some(), some());
      case 11: return x.sum(some(), some(), some(), RANDOM.nextBoolean(), some());
      case 12: return x.best(some(), some(), some(), some());
      case 13: return x.made(some(), some(), some());
      case 14: return x.blocks(someFigures(), some(), some());
      default: return more(x, which);
    }
  }

  private static long more(CarryNets x, int which) {
    switch (which) {
      case 15: return x.sizes(some(), some(), some(), some());
      case 16: return x.run(some(), some(), some());
      case 17: return x.runs(some(), some());
      case 18: return x.mean(some(), some());
      case 19: return x.height(some(), some());
      case 20: return x.product(some(), some());
      case 21: return x.down(some());
      case 22: return x.downs(some(), some());
      case 23: return x.heap(some());
      case 24: return x.digit(some(), some());
      case 25: return x.times(some(), some(), some(), some());
      case 26: return x.sheet(some(), some(), some());
      case 27: return x.lay(some(), some(), some());
      case 28: return x.heights(some(), some(), some(), some());
      default: return x.count(some());
    }
  }
}
