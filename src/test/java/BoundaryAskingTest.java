/** Boundary cases of promises 13 to 21, and of calls that change nothing. */
public final class BoundaryAskingTest {
  public static void main(String[] args) {
    state();
    result();
    instance();
    session();
    task();
    instances();
    waiting();
    events();
    refusedCalls();
    Script.end();
  }

  private static void state() {
    String pool = "component(2, 0, 0, 0) = 0; start() = 0";
    Boundary.range("Promise 13", "-1 if caller is not 0 .. 7", pool, "state(?)",
        new Boundary.Range(0, 7, "0", "-1"));
    String line = "component(2, 0, -1, 0) = 0; component(0, 1, -1, 0) = 1; start() = 0\n"
        + "call(5, 1, 0) = 20; state(0) = 0\n";
    String sentence = "The number of the caller's methods, + 8 if it waits";
    for (int depth = 0; depth <= 3; depth++) {
      String deep = line + "call(0, 0, 0) = 20\n".repeat(depth) + "state(0) = " + depth + "\n";
      Boundary.holds("Promise 13", sentence, deep + "call(0, 1, 0) = 21; state(0) = " + (depth + 8)
          + "; state(1) = 0; finish(5, 0) = 0; state(0) = " + (depth + 1));
    }
    Boundary.holds("Promise 13", sentence, line + "call(0, 0, 0) = 20\n".repeat(4)
        + "state(0) = 4; call(0, 1, 0) = -1; state(0) = 4; finish(0, 0) = 0; state(0) = 3");
  }

  private static void result() {
    String all = "component(2, 2, 0, 0) = 0; start() = 0; call(0, 0, 0) = 9; call(5, 0, 0) = 9";
    Boundary.range("Promise 14", "-1 if it got none or is not 0 .. 7", all, "result(?)",
        new Boundary.Range(0, 5, "9", "-1"));
    Boundary.holds("Promise 14", "-1 if it got none or is not 0 .. 7",
        "result(0) = -1; result(7) = -1; result(8) = -1", """
        component(0, 1, 0, 0) = 0; start() = 0; call(0, 0, 0) = 20; submit(0, 0, true) = 0
        result(6) = 11; result(7) = -1; result(8) = -1; result(0) = -1; finish(0, 0) = 0
        result(0) = 0; result(-1) = -1
        """);
    Boundary.holds("Promise 14", "(a call that enters or waits gives none)", """
        component(2, 0, 2, 0) = 0; start() = 0; call(0, 0, 1) = 20; result(0) = -1
        call(1, 0, 0) = 21; result(1) = -1; finish(0, 1) = 8; result(0) = 8; result(1) = -1
        call(0, 0, 1) = 21; result(0) = 8; tick(1) = 0; result(0) = 8; tick(1) = 1
        result(0) = 10; call(0, 0, 0) = 20; result(0) = 10
        """);
  }

  private static void instance() {
    String all = "component(2, 0, 0, 0) = 0; start() = 0; call(0, 0, 0) = 20\n"
        + "submit(0, 0, true) = 0; submit(0, 0, true) = 1";
    Boundary.range("Promise 15", "-1 if it has none or is not 0 .. 7", all, "instance(?)",
        new Boundary.Range(0, 7, "0", "-1"));
    Boundary.holds("Promise 15", "-1 if it has none or is not 0 .. 7",
        "component(2, 0, 0, 0) = 0; start() = 0; instance(0) = -1; call(0, 0, 0) = 20\n"
            + "instance(0) = 0; instance(1) = -1; finish(0, 0) = 0; instance(0) = -1",
        "component(0, 1, -1, 0) = 0; start() = 0; call(0, 0, 0) = 20; call(1, 0, 0) = 21\n"
            + "instance(1) = -1; finish(0, 0) = 0; instance(1) = 0");
    Boundary.holds("Promise 15", "The instance of the method that the caller is in",
        "component(0, 4, 0, 0) = 0; start() = 0; call(0, 0, 0) = 20; instance(0) = 0\n"
            + "call(0, 0, 0) = 20; instance(0) = 1; call(0, 0, 0) = 20; instance(0) = 2\n"
            + "call(0, 0, 0) = 20; instance(0) = 3; finish(0, 0) = 0; instance(0) = 2");
  }

  private static void session() {
    String sentence = "Session s: 0 gone (all are behind END) or never made, 1 in memory and not in"
        + " use, 2 in use, 3 put away";
    String all = "component(1, 1, 0, 0) = 0; start() = 0\n"
        + Boundary.counted(0, 23, "session(?) = 0; create(0) = ?; session(?) = 1");
    Boundary.holds("Promise 16", sentence,
        all + "session(-1) = 0; session(0) = 3; session(23) = 1; session(24) = 0; session(32) = 0",
        all + "call(0, 31, 0) = 20; session(22) = 3; session(23) = 2; session(MIN) = 0",
        all + "session(8) = 3; shutdown() = 0; session(0) = 0; session(23) = 0; session(MAX) = 0",
        """
        component(1, 1, 0, 0) = 0; component(0, 1, 0, 0) = 1; session(0) = 0; start() = 0
        create(0) = 0; session(0) = 1; session(1) = 0; call(0, 8, 0) = 20; session(0) = 2
        create(0) = 1; session(1) = 3; call(1, 1, 0) = 20; shutdown() = 0; session(0) = 2
        session(1) = 3; finish(0, 0) = 0; session(0) = 1; finish(1, 0) = 0; session(0) = 0
        session(1) = 0
        """);
  }

  private static void task() {
    String most = "component(2, 0, 0, 0) = 0; start() = 0\n"
        + Boundary.counted(0, 23, "task(?) = 0; submit(0, 0, true) = ?");
    Boundary.holds("Promise 17", "Task k: 0 if there was none",
        most + "task(-1) = 0; task(0) = 2; task(23) = 1; task(24) = 0; task(MIN) = 0",
        "task(0) = 0; start() = 0; task(0) = 0; task(MAX) = 0; shutdown() = 0; task(0) = 0");
    Boundary.holds("Promise 17", "1 it is waiting, 2 a worker has it, 3 it is cancelled, 4 it is"
        + " done", """
        component(2, 0, 0, 0) = 0; start() = 0; submit(0, 0, false) = 0; task(0) = 2
        submit(0, 0, false) = 1; submit(0, 0, false) = 2; task(2) = 1; cancel(2) = 1
        task(2) = 3; finish(6, 0) = 0; task(0) = 4; task(1) = 2
        """);
    Boundary.holds("Promise 17", "+ 8 if it was noted that it was to be cancelled", """
        component(2, 0, 0, 0) = 0; start() = 0; submit(0, 0, false) = 0; submit(0, 0, true) = 1
        submit(0, 0, true) = 2; cancel(0) = 2; task(0) = 10; cancel(2) = 1; task(2) = 3
        finish(6, 0) = 0; task(0) = 12; cancel(0) = 0; task(0) = 12; finish(7, 0) = 0
        cancel(1) = 0; task(1) = 20
        """);
    Boundary.holds("Promise 17", "+ 16 * (result + 1) if it is done and its result was wanted (else"
        + " without)", wantedResults(), """
        component(0, 1, 1, 0) = 0; component(0, 1, 0, 0) = 1; component(2, 2, 0, 0) = 2
        start() = 0; call(0, 0, 0) = 20; call(0, 1, 0) = 20; submit(2, 0, true) = 0
        task(0) = 164; submit(0, 0, true) = 1; task(1) = 2; tick(1) = 1; task(1) = 180
        submit(1, 0, true) = 2; task(2) = 196; submit(2, 0, false) = 3; task(3) = 4
        submit(0, 0, true) = 4; submit(0, 0, false) = 5; submit(0, 0, true) = 6
        shutdown() = 2; task(4) = 228; task(5) = 4; task(6) = 3
        """);
  }

  /** Tasks that end with each outcome, once wanted and once not. */
  private static String wantedResults() {
    StringBuilder rows = new StringBuilder("component(2, 0, 0, 0) = 0\n"
        + "application(1, true) = true; application(3, false) = true; start() = 0\n");
    for (int outcome = 0; outcome <= 7; outcome++) {
      int result = outcome == 6 || outcome == 7 ? 8 : outcome;
      int k = 2 * outcome;
      rows.append("submit(0, 0, true) = " + k + "; submit(0, 0, false) = " + (k + 1) + "\n");
      rows.append("finish(6, " + outcome + ") = " + result + "; finish(7, " + outcome + ") = "
          + result + "\n");
      rows.append("task(" + k + ") = " + (4 + 16 * (result + 1)) + "; task(" + (k + 1) + ") = 4\n");
    }
    return rows.toString();
  }

  private static void instances() {
    String eight = Boundary.counted(0, 1, "instances(?) = -1; component(?, 1, 0, 0) = ?")
        + Boundary.counted(2, 7, "instances(?) = -1; component(2, 0, 0, 0) = ?");
    Boundary.range("Promise 18", "-1 if there is no component c", eight, "instances(?)",
        new Boundary.Range(0, 7, "0", "-1"));
    Boundary.range("Promise 18", "-1 if there is no component c", "component(1, 1, 0, 0) = 0",
        "instances(?)", new Boundary.Range(0, 0, "0", "-1"));
    Boundary.holds("Promise 18", "in the pool, in use or not", """
        component(0, 2, 0, 0) = 0; instances(0) = 0; start() = 0; instances(0) = 0
        call(0, 0, 0) = 20; instances(0) = 1; call(1, 0, 0) = 20; instances(0) = 2
        finish(0, 0) = 0; instances(0) = 2; finish(1, 1) = 8; instances(0) = 1
        call(0, 0, 0) = 20; instances(0) = 1; finish(0, 1) = 8; instances(0) = 0
        """);
    Boundary.holds("Promise 18", "sessions in memory, in use or not", """
        component(1, 2, 0, 0) = 0; component(1, 1, 0, 0) = 1; start() = 0; instances(0) = 0
        create(0) = 0; instances(0) = 1; create(0) = 1; instances(0) = 2; create(0) = 2
        instances(0) = 2; instances(1) = 0; call(0, 9, 0) = 20; instances(0) = 2
        call(1, 10, 1) = 20; instances(0) = 2; call(2, 8, 0) = 20; instances(0) = 3
        finish(1, 0) = 0; instances(0) = 2; finish(0, 1) = 8; instances(0) = 1
        """);
    Boundary.holds("Promise 18", "1 if the singleton has begun and the container is not ENDED, else"
        + " 0", """
        component(2, 0, 0, 0) = 0; component(2, 1, 0, 0) = 1; component(2, 3, 0, 0) = 2
        instances(1) = 0; start() = 1; instances(0) = 0; instances(1) = 1; instances(2) = 0
        call(0, 0, 0) = 20; instances(0) = 1; call(0, 2, 0) = 9; instances(2) = 0
        shutdown() = 0; instances(0) = 1; instances(1) = 1; finish(0, 0) = 0; instances(0) = 0
        instances(1) = 0; instances(2) = 0
        """);
  }

  private static void waiting() {
    String home = "component(1, 1, 0, 0) = 0; component(0, 1, 0, 0) = 1\n"
        + "component(1, 1, 0, 0) = 2; component(2, 0, 0, 0) = 3; start() = 0";
    for (int target : new int[] {1, 3}) {
      Boundary.holds("Promise 19", "-1 if there is no such target", home + "; waiting(0) = -1\n"
          + "waiting(2) = -1; waiting(4) = -1; waiting(-1) = -1; waiting(" + target + ") = 0");
    }
    String all = home + "\n" + Boundary.counted(8, 31, "waiting(?) = -1")
        + Boundary.counted(0, 23, "create(0) = ?");
    Boundary.range("Promise 19", "-1 if there is no such target", all, "waiting(?)",
        new Boundary.Range(8, 31, "0", "-1"));
    Boundary.holds("Promise 19", "How many callers wait in the line of a target (0 for a session"
        + " that is gone)", """
        component(1, 1, -1, 0) = 0; start() = 0; create(0) = 0; waiting(8) = 0
        call(0, 8, 1) = 20; waiting(8) = 0; call(1, 8, 0) = 21; waiting(8) = 1
        call(2, 8, 0) = 21; call(3, 8, 0) = 21; call(4, 8, 0) = 21; call(5, 8, 0) = 21
        submit(8, 0, true) = 0; submit(8, 0, true) = 1; submit(8, 0, true) = 2; waiting(8) = 7
        finish(0, 0) = 0; session(0) = 0; waiting(8) = 0; call(0, 8, 0) = 9; waiting(8) = 0
        """, """
        component(2, 0, 2, 0) = 0; component(2, 0, 2, 0) = 1; start() = 0; call(0, 0, 1) = 20
        call(0, 1, 1) = 20; call(1, 0, 0) = 21; tick(1) = 0; call(2, 0, 0) = 21
        call(3, 1, 0) = 21; waiting(0) = 2; waiting(1) = 1; tick(1) = 1; waiting(0) = 1
        finish(0, 0) = 0; waiting(1) = 0; waiting(0) = 1; shutdown() = 1; waiting(0) = 0
        """);
  }

  private static void events() {
    Boundary.holds("Promise 20", "How many events there were", """
        events() = 0; component(2, 1, 0, 0) = 0; events() = 0; start() = 1; events() = 1
        call(0, 0, 0) = 20; events() = 2; call(1, 0, 1) = 11; events() = 2; finish(0, 0) = 0
        events() = 3; shutdown() = 0; events() = 4
        """);
    Boundary.holds("Promise 21", "The event that was k before the latest (0: the latest)",
        "component(2, 1, 0, 0) = 0; start() = 1; event(0) = 1; event(1) = -1; call(0, 0, 0) = 20\n"
            + "event(0) = 23; event(1) = 1; event(2) = -1");
    for (int count : new int[] {1, 2, 63, 64, 65, 66, 127, 128, 129, 130, 192, 193}) {
      Boundary.holds("Promise 21", "-1 if k is not 0 .. 63 or there were not so many",
          events(count));
    }
  }

  /** Event 0 is CREATED; then caller 0 enters and leaves in turn. */
  private static String firstEvents(int count) {
    StringBuilder rows = new StringBuilder("component(2, 1, 0, 0) = 0; start() = 1\n");
    for (int i = 1; i < count; i++) {
      rows.append(i % 2 == 1 ? "call(0, 0, 0) = 20\n" : "finish(0, 0) = 0\n");
    }
    return rows.toString();
  }

  private static String events(int count) {
    StringBuilder rows = new StringBuilder(firstEvents(count) + "events() = " + count + "\n");
    for (int k : new int[] {-1, 0, 1, 62, 63, 64, 65, 127, 128}) {
      int number = count - 1 - k;
      int event = number == 0 ? 1 : number % 2 == 1 ? 23 : 24;
      boolean told = k >= 0 && k <= 63 && number >= 0;
      rows.append("event(" + k + ") = " + (told ? event : -1) + "\n");
    }
    return rows + "event(MIN) = -1; event(MAX) = -1";
  }

  /** Script looks at everything behind each refused row; the rows after it show hidden changes. */
  private static void refusedCalls() {
    String sentence = "A call that is answered with -1 or false changes nothing.";
    Boundary.holds("Terms", sentence, """
        component(0, 1, 0, 0) = 0; component(0, 0, 0, 0) = -1; component(3, 1, 0, 0) = -1
        component(2, 0, 0, 0) = 1; component(2, 2, 0, 0) = 2; depends(1, 1) = false
        depends(1, 0) = false; depends(2, 1) = true; depends(1, 2) = false
        application(0, true) = false; application(2, true) = true; application(2, false) = false
        start() = 0; call(0, 1, 0) = 20; finish(0, 4) = 4; instances(2) = 0
        """, """
        component(1, 1, -1, 2) = 0; component(2, 0, 2, 0) = 1; component(0, 1, -1, 0) = 2
        start() = 0; create(0) = 0; call(0, 8, 3) = -1; call(8, 8, 0) = -1; create(1) = -1
        submit(8, 3, true) = -1; submit(1, 2, true) = -1; submit(0, 0, true) = -1
        instances(1) = 0; tick(51) = -1; tick(1) = 0; tick(-1) = -1; session(0) = 1
        finish(0, 0) = -1; finish(0, 8) = -1; tick(1) = 100; submit(1, 1, true) = 0
        create(0) = 1; call(0, 9, 0) = 20; finish(0, 8) = -1; finish(0, -1) = -1
        call(0, 1, 0) = 21; finish(0, 0) = -1; call(0, 2, 0) = -1; tick(1) = 0
        finish(0, 1) = -1; tick(1) = 1; state(0) = 1; finish(0, 0) = 0; session(1) = 1
        """, """
        component(0, 1, 0, 0) = 0; component(2, 0, 0, 0) = 1; component(2, 0, 0, 0) = 2
        create(0) = -1; shutdown() = -1; tick(1) = -1; call(0, 1, 0) = -1; start() = 0
        events() = 0; start() = -1; component(0, 1, 0, 0) = -1; depends(1, 2) = false
        application(1, true) = false; call(0, 1, 0) = 20; instances(2) = 0; finish(0, 1) = 8
        call(0, 1, 0) = 20; shutdown() = 0; call(0, 2, 0) = -1; submit(2, 0, true) = -1
        shutdown() = -1; start() = -1; state(0) = 1; finish(0, 8) = -1; finish(0, 0) = 0
        finish(0, 0) = -1; shutdown() = -1; events() = 6
        """);
  }
}
