import java.nio.charset.StandardCharsets;

/** Texts for THE TAPE. */
final class Texts {
  private Texts() {
  }

  /** Feeds the text by eights and cuts what the last eight have too much; rounded up so, it must have room on THE TAPE. */
  static void feed(CarryNets x, String text) {
    byte[] bytes = text.getBytes(StandardCharsets.ISO_8859_1);
    int before = x.count(3);
    for (int from = 0; from < bytes.length; from += 8) {
      x.feed(eight(text, from));
    }
    x.end(before + bytes.length);
  }

  static int tell(CarryNets x, String text) {
    feed(x, text);
    return x.text();
  }

  /** Eight signs of a text as feed takes them, blanks behind its end. */
  static long eight(String text, int from) {
    byte[] bytes = text.getBytes(StandardCharsets.ISO_8859_1);
    long v = 0;
    for (int b = from; b < from + 8; b++) {
      v = v << 8 | (b < bytes.length ? bytes[b] & 255 : 32);
    }
    return v;
  }

  /** A first part and a last one with as many blanks between as make up the length. */
  static String spread(String first, String last, int length) {
    return first + " ".repeat(length - first.length() - last.length()) + last;
  }

  /** A NET of 32 PLACES with so many ROWS of one CELL: 31 at PLACE 31, then at 30, 29 and so on. */
  static String rows(int count) {
    StringBuilder text = new StringBuilder("32:");
    for (int r = 0; r < count; r++) {
      text.append(r < 31 ? 31 : 61 - r).append(';');
    }
    return text.toString();
  }
}
