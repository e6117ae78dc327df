import java.nio.charset.StandardCharsets;

/** Puts texts on THE TAPE. */
final class Texts {
  private Texts() {
  }

  /** Feeds the text by eights and cuts the last eight; the text is 240 bytes long at most. */
  static void feed(CarryNets x, String text) {
    byte[] bytes = text.getBytes(StandardCharsets.ISO_8859_1);
    int before = x.count(3);
    for (int from = 0; from < bytes.length; from += 8) {
      long v = 0;
      for (int b = from; b < from + 8; b++) {
        v = v << 8 | (b < bytes.length ? bytes[b] & 255 : 32);
      }
      x.feed(v);
    }
    x.end(before + bytes.length);
  }

  static int tell(CarryNets x, String text) {
    feed(x, text);
    return x.text();
  }
}
