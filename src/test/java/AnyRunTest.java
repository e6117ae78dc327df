import java.lang.reflect.Method;
import java.util.Random;

/** All promises together: runs of 512 calls, arguments at and about their bounds, each answer compared with the plain form. */
public final class AnyRunTest {
  private static final int ANY = Integer.MIN_VALUE;
  private static final int[] FAR = {-1, -4, 13, 31, 32, 33, 61, 99, 100, 131, 132, 200, 231, 232, 241, 256, 65536,
    Integer.MAX_VALUE, Integer.MIN_VALUE};
  private static final Due DUE = new Due();
  private static final Random RANDOM = new Random(31);

  /** A call's name and, for each argument, the least and the greatest that the document allows. */
  private record Call(String name, int... bounds) {
  }

  private static final Call[] CALLS = {new Call("feed"), new Call("end", 0, 240), new Call("text"), new Call("fault"),
    new Call("net", 2, 32, 0, 4), new Call("drop"), new Call("told", 0, 7, 0, 7), new Call("told", 0, 7, 100, 131),
    new Call("told", 0, 7, 200, 231), new Call("cell", 0, 7, 0, 5, 0, 31, 0, 2), new Call("pace", 1, 9, 0, 9),
    new Call("start", 0, 31, 0, 99), new Call("time", 0, 7, 0, 31), new Call("time", 0, 7, -5, -3),
    new Call("sum", 0, 7, ANY, ANY, ANY, ANY, 0, 1, 0, 1), new Call("best", 2, 7, 1, 6, 1, 6, 0, 1),
    new Call("made", 2, 7, 1, 6, 1, 6), new Call("blocks", 0, 0, 0, 1, 1, 9), new Call("sizes", 1, 32, 0, 1, 1, 9, 0, 1),
    new Call("run", 1, 31, 0, 255, 0, 255), new Call("runs", 1, 31, 0, 31), new Call("mean", 1, 15, 0, 1),
    new Call("height", 0, 11, 0, 12), new Call("product", 1, 6, 1, 6), new Call("down", 0, 1),
    new Call("downs", 0, 1, 0, 3), new Call("heap", 0, 11), new Call("heap", 20, 23), new Call("digit", 0, 65535, 0, 8),
    new Call("times", 0, 65535, 0, 32767, 0, 7, 0, 1), new Call("sheet", 0, 3, 0, 2, 0, 60),
    new Call("sheet", 0, 3, 0, 2, 0, 15), new Call("lay", 0, 3, 0, 15, 0, 12), new Call("lay", 0, 3, 0, 59, ANY, ANY),
    new Call("heights", 0, 3, 0, 2, 0, 15, 1, 12), new Call("heights", 0, 3, 0, 2, 0, 59, 1, 3), new Call("count", 0, 4)};

  public static void main(String[] args) throws Exception {
    for (int round = 0; round < 300; round++) {
      oneRun(round);
    }
    DUE.close();
  }

  private static void oneRun(int round) throws Exception {
    CarryNets x = new CarryNets();
    Plain plain = new Plain();
    for (int asked = 0; asked < 512; asked++) {
      Call call = CALLS[RANDOM.nextInt(CALLS.length)];
      Method method = named(CarryNets.class, call.name);
      Object[] values = valuesFor(call, method.getParameterTypes());
      Method second = Plain.class.getDeclaredMethod(call.name, method.getParameterTypes());
      long got = ((Number) method.invoke(x, values)).longValue();
      long due = ((Number) second.invoke(plain, values)).longValue();
      DUE.is("round " + round + ", call " + asked + ": " + call.name + java.util.Arrays.toString(values), got, due);
      if (got != due) {
        return;
      }
    }
  }

  private static Method named(Class<?> type, String name) {
    for (Method method : type.getMethods()) {
      if (method.getName().equals(name)) {
        return method;
      }
    }
    throw new IllegalArgumentException(name);
  }

  private static Object[] valuesFor(Call call, Class<?>[] types) {
    Object[] values = new Object[types.length];
    for (int p = 0; p < types.length; p++) {
      if (types[p] == long.class) {
        values[p] = call.name.equals("feed") ? someText() : someFigures();
      } else if (types[p] == boolean.class) {
        values[p] = RANDOM.nextBoolean();
      } else {
        values[p] = some(call.bounds[2 * p], call.bounds[2 * p + 1]);
      }
    }
    return values;
  }

  /** Most of them within the bounds, some at the first beyond, some far off. */
  private static int some(int least, int most) {
    int kind = RANDOM.nextInt(40);
    if (kind == 0) {
      return FAR[RANDOM.nextInt(FAR.length)];
    }
    if (least == ANY) {
      return RANDOM.nextInt() >> RANDOM.nextInt(32);
    }
    if (kind < 5) {
      return new int[] {least - 1, least, most, most + 1}[kind - 1];
    }
    return least + RANDOM.nextInt(most - least + 1);
  }

  private static long someText() {
    String[] texts = {"4:1,2;  ", "5: 4;1,2", ";3,4;   ", "3:1;2;  ", "32:31;30", ";29;31; ", "7:6;5;3 ", "10:1,3,5", "2:1;    "};
    String text = texts[RANDOM.nextInt(texts.length)];
    String signs = "0123456789::,,;;  x.";
    long v = 0;
    for (int b = 0; b < 8; b++) {
      char sign = RANDOM.nextInt(40) == 0 ? signs.charAt(RANDOM.nextInt(signs.length())) : text.charAt(b);
      v = v << 8 | sign;
    }
    return RANDOM.nextInt(40) == 0 ? RANDOM.nextLong() : v;
  }

  private static long someFigures() {
    if (RANDOM.nextInt(8) == 0) {
      return RANDOM.nextLong() >> RANDOM.nextInt(64);
    }
    long figures = 0;
    int left = 34;
    for (int q = RANDOM.nextInt(14); q > 0 && left > 0; q--) {
      int size = RANDOM.nextInt(30) == 0 ? 0 : 1 + RANDOM.nextInt(Math.min(15, left));
      figures = figures << 4 | size;
      left -= size;
    }
    return figures;
  }
}
