import java.util.Random;

/** Promises 2, 4, 5: texts with a few signs changed, compared with the plain form. */
public final class TapeTest {
  private static final Due DUE = new Due();

  public static void main(String[] args) {
    Random random = new Random(4);
    for (int round = 0; round < 20000; round++) {
      compare(someText(random));
    }
    DUE.close();
  }

  private static String someText(Random random) {
    String signs = "0123456789::,,;;;  x.";
    StringBuilder text = new StringBuilder(PlainNet.some(random, 2 + random.nextInt(9), random.nextInt(4)).text());
    for (int change = random.nextInt(4); change > 0; change--) {
      int at = random.nextInt(text.length());
      char sign = signs.charAt(random.nextInt(signs.length()));
      if (random.nextInt(3) == 0) {
        text.setCharAt(at, sign);
      } else {
        text.insert(at, sign);
      }
    }
    return text.toString();
  }

  private static void compare(String text) {
    PlainText due = PlainText.read(text);
    CarryNets x = new CarryNets();
    DUE.is("text " + text, Texts.tell(x, text), due.fault() == 0 ? 0 : -10 - due.place());
    DUE.is("fault of " + text, x.fault(), due.fault());
  }
}
