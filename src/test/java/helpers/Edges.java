import java.util.List;

/** Calls at the bounds: what they are due to answer and, if they are refused, that all later calls show the state as it was. */
final class Edges {
  /** One call on an object. */
  interface Call {
    long on(CarryNets x);
  }

  private final Due due = new Due();

  /** In each of these states; without one in all. */
  void answers(String name, long want, Call call, State... states) {
    for (State state : states.length == 0 ? State.values() : states) {
      due.is(name + " when " + state, call.on(state.make()), want);
    }
  }

  /** In each of these states (without one in all) the call answers so and leaves all as it was. */
  void leaves(String name, long want, Call call, State... states) {
    for (State state : states.length == 0 ? State.values() : states) {
      CarryNets x = state.make();
      due.is(name + " when " + state, call.on(x), want);
      same(name + " when " + state, x, state.make());
    }
  }

  /** Later calls show the same of both. */
  void same(String name, CarryNets x, CarryNets other) {
    List<String> shown = Shown.of(x);
    List<String> want = Shown.of(other);
    int first = 0;
    while (first < want.size() && first < shown.size() && shown.get(first).equals(want.get(first))) {
      first++;
    }
    String changed = first < want.size() ? "; changed is, first of all, " + want.get(first) : "";
    due.is(name + ": later calls that show it as it was" + changed, first, want.size());
  }

  /** Each of the calls answers BAD in all states and leaves all as it was. */
  void bad(String name, Call... calls) {
    for (int c = 0; c < calls.length; c++) {
      leaves(name + ", call " + c, CarryNets.BAD, calls[c]);
    }
  }

  void is(String name, long got, long want) {
    due.is(name, got, want);
  }

  void close() {
    due.close();
  }
}
