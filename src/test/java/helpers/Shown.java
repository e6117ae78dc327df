import java.util.ArrayList;
import java.util.List;

/** All that later calls show of an object's state; they use it up. */
final class Shown {
  private final CarryNets x;
  private final List<String> rows = new ArrayList<>();

  private Shown(CarryNets x) {
    this.x = x;
  }

  static List<String> of(CarryNets x) {
    Shown shown = new Shown(x);
    shown.counts();
    shown.nets();
    shown.heap();
    shown.starts();
    shown.sheets();
    shown.tape();
    shown.drops();
    return shown.rows;
  }

  private void row(String call, long answer) {
    rows.add(call + " " + answer);
  }

  private void counts() {
    row("fault", x.fault());
    for (int what = 0; what < 5; what++) {
      row("count " + what, x.count(what));
    }
  }

  private void nets() {
    for (int k = 0; k < x.count(0); k++) {
      for (int what : new int[] {0, 1, 2, 3, 4, 5, 6, 7, 100, 101, 102, 103, 201, 202, 203, 204, 205, 231}) {
        row("told " + k + " " + what, x.told(k, what));
      }
      row("time " + k, x.time(k, CarryNets.NONE));
      row("carries " + k, x.sum(k, 0x7b, 0x35, true, 1));
    }
  }

  private void heap() {
    for (int what = 0; what < 24; what++) {
      row("heap " + what, x.heap(what));
    }
    for (int what = 0; what < 4; what++) {
      row("downs " + what, x.downs(what % 2, what));
    }
  }

  private void starts() {
    for (int i = 0; i < 32; i++) {
      row("start " + i, x.start(i, 0));
    }
  }

  private void sheets() {
    for (int k = 0; k < 4; k++) {
      for (int lane = 0; lane < 3; lane++) {
        for (int f : new int[] {0, 1, 2, 3, 4, 59}) {
          row("heights " + k + " " + lane + " " + f, x.heights(k, lane, f, 1));
        }
      }
    }
  }

  /** A text is told only while there is room for a NET, so one goes first if need be. */
  private void tape() {
    row("feed", x.feed(Texts.eight("5,3;    ", 0)));
    if (x.count(0) == 8) {
      row("drop", x.drop());
    }
    int k = x.text();
    row("text", k);
    row("its fault", x.fault());
    for (int what : new int[] {0, 1, 2, 3, 5, 100, 101, 102, 103, 104}) {
      row("told of the text " + what, x.told(k, what));
    }
  }

  private void drops() {
    for (int k = 0; k < 9; k++) {
      row("drop", x.drop());
    }
  }
}
