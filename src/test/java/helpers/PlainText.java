import java.util.TreeSet;
import java.util.regex.Matcher;
import java.util.regex.Pattern;

/** What a text tells, by all TOKENS and a state for each: a NET, or a FAULT and its place. */
record PlainText(PlainNet net, int fault, int place) {
  private static final Pattern TOKEN = Pattern.compile(" *(?:([0-9]+)|([:,;])|(\\z)|(.))", Pattern.DOTALL);

  static PlainText read(String text) {
    Matcher matcher = TOKEN.matcher(text);
    PlainNet net = null;
    int n = -1;
    String before = "";
    TreeSet<Integer> row = new TreeSet<>();
    while (matcher.find()) {
      int group = matcher.group(1) != null ? 1 : matcher.group(2) != null ? 2 : matcher.group(3) != null ? 3 : 4;
      int at = matcher.start(group);
      String token = matcher.group(group);
      if (group == 4 || group == 1 && token.length() > 2) {
        return new PlainText(null, 1, at);
      }
      String kind = group == 1 ? "N" : group == 3 ? "E" : token;
      if (!mayStand(before, net != null).contains(kind)) {
        return new PlainText(null, 2, at);
      }
      if (kind.equals("E")) {
        return new PlainText(net, 0, 0);
      }
      if (kind.equals("N") && net == null) {
        n = Integer.parseInt(token);
        if (n < 2 || n > 32) {
          return new PlainText(null, 3, at);
        }
      } else if (kind.equals("N")) {
        int fault = faultOf(net, row, Integer.parseInt(token));
        if (fault != 0) {
          return new PlainText(null, fault, at);
        }
        row.add(Integer.parseInt(token));
      } else if (kind.equals(":")) {
        net = new PlainNet(n);
      } else if (kind.equals(";")) {
        net.add(new TreeSet<>(row));
        row.clear();
      }
      before = kind;
    }
    throw new IllegalStateException(text);
  }

  private static String mayStand(String before, boolean inRows) {
    switch (before) {
      case "": return "N";
      case "N": return inRows ? ",;" : ":";
      case ",": return "N";
      default: return "NE";
    }
  }

  private static int faultOf(PlainNet net, TreeSet<Integer> row, int place) {
    if (net.rows.size() == 32) {
      return 5;
    }
    if (place >= net.n) {
      return 3;
    }
    return row.contains(place) || net.lows(net.rows.size())[place] == 0 ? 4 : 0;
  }
}
