/** Promises 4 and 8: which exception types are application exceptions. */
public final class ExceptionTest {
  private static final int TYPES = 7;

  public static void main(String[] args) {
    handPicked();
    allMarkings();
    Script.end();
  }

  private static void handPicked() {
    Script.run("promise 8, a mark that is inherited reaches the children of children", """
        component(2, 0, 0, 0) = 0; application(1, true) = true; start() = 0
        call(0, 0, 0) = 20; finish(0, 1) = 1; call(0, 0, 0) = 20; finish(0, 2) = 2
        call(0, 0, 0) = 20; finish(0, 7) = 7; call(0, 0, 0) = 20; finish(0, 4) = 4
        """);
    Script.run("promise 8, the nearest mark counts", """
        component(2, 0, 0, 0) = 0; application(1, true) = true; application(2, false) = true
        application(6, true) = true; start() = 0
        call(0, 0, 0) = 20; finish(0, 4) = 8; call(0, 0, 0) = 20; finish(0, 5) = 8
        call(0, 0, 0) = 20; finish(0, 2) = 2; call(0, 0, 0) = 20; finish(0, 3) = 3
        call(0, 0, 0) = 20; finish(0, 6) = 6; call(0, 0, 0) = 20; finish(0, 7) = 7
        """);
    Script.run("promise 8, a child's mark does not reach its parent or its sibling", """
        component(2, 0, 0, 0) = 0; application(4, true) = true; start() = 0
        call(0, 0, 0) = 20; finish(0, 2) = 8; call(0, 0, 0) = 20; finish(0, 5) = 8
        call(0, 0, 0) = 20; finish(0, 4) = 4
        """);
  }

  /** Every type under every way of marking the seven: unmarked, marked alone, inherited. */
  private static void allMarkings() {
    int ways = 1;
    for (int e = 1; e <= TYPES; e++) {
      ways *= 3;
    }
    for (int way = 0; way < ways; way++) {
      int[] marks = marksOf(way);
      SessionHost host = new SessionHost();
      host.component(2, 0, 0, 0);
      for (int e = 1; e <= TYPES; e++) {
        if (marks[e] != 0) {
          host.application(e, marks[e] == 2);
        }
      }
      host.start();
      for (int e = 1; e <= TYPES; e++) {
        host.call(0, 0, 0);
        int want = spares(marks, e, true) ? e : 8;
        Script.due("marking " + way + ", type " + e, "" + host.finish(0, e), "" + want);
      }
    }
  }

  private static int[] marksOf(int way) {
    int[] marks = new int[TYPES + 1];
    int rest = way;
    for (int e = 1; e <= TYPES; e++) {
      marks[e] = rest % 3;
      rest /= 3;
    }
    return marks;
  }

  private static boolean spares(int[] marks, int e, boolean own) {
    if (e == 0) {
      return false;
    }
    return marks[e] == 0 ? spares(marks, e / 2, false) : own || marks[e] == 2;
  }
}
