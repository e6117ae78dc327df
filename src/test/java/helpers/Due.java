/** Compares answers with those that are due and keeps the tally of one test. */
final class Due {
  private int wrong = 0;
  private int asked = 0;

  void is(String call, long got, long want) {
    asked++;
    if (got != want) {
      wrong++;
      if (wrong <= 40) {
        System.out.println(call + " answered " + got + ", due is " + want);
      }
    }
  }

  /** Several calls, each of which is due to answer BAD. */
  void bad(String calls, long... got) {
    for (int c = 0; c < got.length; c++) {
      is(calls + ", call " + c, got[c], CarryNets.BAD);
    }
  }

  void close() {
    System.out.println(wrong == 0 ? asked + " answers are as due" : wrong + " of " + asked + " answers are not as due");
    if (wrong != 0) {
      System.exit(1);
    }
  }
}
