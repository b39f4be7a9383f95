/** Boundary cases of promises 10 to 12: submit, cancel and shutdown. */
public final class BoundaryTasksTest {
  public static void main(String[] args) {
    submit();
    submitRefused();
    cancelWaiting();
    cancelTaken();
    cancelOthers();
    shutdownTasks();
    shutdownLines();
    shutdownPhases();
    Script.end();
  }

  private static void submit() {
    Boundary.holds("Promise 10", "It is waiting; then settling. Answers its number, counted from 0",
        """
        component(2, 0, 0, 0) = 0; start() = 0; submit(0, 0, true) = 0; task(0) = 2
        submit(0, 0, false) = 1; task(1) = 2; submit(0, 0, true) = 2; task(2) = 1
        submit(0, 2, true) = -1; submit(0, 0, false) = 3; task(3) = 1; finish(7, 0) = 0
        task(2) = 2; task(3) = 1
        """);
    Boundary.holds("Promise 10", "A new task: a call of target with mode, whose result is wanted or"
        + " not", """
        component(2, 0, 0, 0) = 0; start() = 0; submit(0, 1, true) = 0; call(0, 0, 0) = 11
        finish(6, 0) = 0; task(0) = 20; submit(0, 0, false) = 1; call(0, 0, 0) = 20
        finish(6, 0) = 0; task(1) = 4
        """);
  }

  private static void submitRefused() {
    Boundary.holds("Promise 10", "-1 if the container is not RUNNING", """
        component(0, 4, 0, 0) = 0; submit(0, 0, true) = -1; start() = 0; call(0, 0, 0) = 20
        shutdown() = 0; submit(0, 0, true) = -1; finish(0, 0) = 0; submit(0, 0, true) = -1
        task(0) = 0
        """);
    String three = "component(0, 1, 0, 0) = 0; component(1, 1, 0, 0) = 1\n"
        + "component(2, 0, 0, 0) = 2; start() = 0; create(1) = 0";
    for (int target : new int[] {0, 2, 8}) {
      Boundary.range("Promise 10", "there is no such target", three, "submit(?, 0, true)",
          new Boundary.Range(target, target, "0", "-1"));
    }
    String sentence = "the mode is none of that target's";
    Boundary.range("Promise 10", sentence, three, "submit(0, ?, true)",
        new Boundary.Range(0, 0, "0", "-1"));
    Boundary.range("Promise 10", sentence, three, "submit(8, ?, true)",
        new Boundary.Range(0, 2, "0", "-1"));
    Boundary.range("Promise 10", sentence, three, "submit(2, ?, true)",
        new Boundary.Range(0, 1, "0", "-1"));
    String most = "component(2, 0, 0, 0) = 0; start() = 0\n"
        + Boundary.counted(0, 22, "submit(0, 0, true) = ?");
    String full = "submit(0, 0, true) = -1; task(24) = 0\n";
    Boundary.holds("Promise 10", "or 24 tasks were submitted",
        most + "submit(0, 0, true) = 23; task(23) = 1\n" + full,
        most + "cancel(22) = 1; submit(0, 0, true) = 23; cancel(23) = 1; task(23) = 3\n" + full,
        most + "finish(6, 0) = 0; submit(0, 0, true) = 23; finish(7, 0) = 0\n" + full);
  }

  private static void cancelWaiting() {
    Boundary.holds("Promise 11", "1 if task k was waiting: it is CANCELLED now and is never taken",
        """
        component(2, 0, 0, 0) = 0; start() = 0; submit(0, 0, true) = 0; submit(0, 0, true) = 1
        submit(0, 0, true) = 2; submit(0, 0, true) = 3; cancel(2) = 1; task(2) = 3
        task(3) = 1; finish(6, 0) = 0; task(2) = 3; task(3) = 2; finish(6, 0) = 0
        state(6) = 0; tick(1) = 0; task(2) = 3; finish(7, 0) = 0; submit(0, 0, true) = 4
        task(4) = 2; task(2) = 3
        """, """
        component(2, 0, 0, 0) = 0; start() = 0; submit(0, 0, true) = 0; submit(0, 0, true) = 1
        submit(0, 0, true) = 2; submit(0, 0, true) = 3; cancel(3) = 1; cancel(2) = 1
        finish(6, 0) = 0; finish(7, 0) = 0; state(6) = 0; state(7) = 0; task(2) = 3
        task(3) = 3; events() = 5
        """);
  }

  private static void cancelTaken() {
    Boundary.holds("Promise 11", "2 if a worker has it (also when it was noted already): it is"
        + " noted that it was to be cancelled, no more", """
        component(2, 0, -1, 0) = 0; start() = 0; submit(0, 1, true) = 0; task(0) = 2
        cancel(0) = 2; task(0) = 10; cancel(0) = 2; task(0) = 10; state(6) = 1
        submit(0, 0, true) = 1; state(7) = 8; cancel(1) = 2; task(1) = 10; state(7) = 8
        waiting(0) = 1; finish(6, 0) = 0; task(0) = 28; state(7) = 1; task(1) = 10
        finish(7, 1) = 8; task(1) = 156
        """, """
        component(2, 0, -1, 0) = 0; start() = 0; submit(0, 1, false) = 0; cancel(0) = 2
        call(6, 0, 0) = 20; finish(6, 0) = 0; task(0) = 10; finish(6, 0) = 0; task(0) = 12
        """);
  }

  private static void cancelOthers() {
    String tasks = "component(2, 0, 0, 0) = 0; component(2, 2, 0, 0) = 1; start() = 0\n"
        + "submit(0, 0, true) = 0; submit(0, 0, true) = 1; submit(0, 0, true) = 2\n";
    Boundary.holds("Promise 11", "0 otherwise (in any PHASE)",
        tasks + "cancel(-1) = 0; cancel(MIN) = 0; cancel(3) = 0; cancel(24) = 0; cancel(MAX) = 0\n"
            + "cancel(2) = 1; cancel(2) = 0; task(2) = 3; finish(6, 0) = 0; cancel(0) = 0\n"
            + "task(0) = 20; submit(1, 0, true) = 3; task(3) = 164; cancel(3) = 0; task(3) = 164",
        tasks + "shutdown() = 0; cancel(2) = 0; task(2) = 3; cancel(0) = 2; task(0) = 10\n"
            + "finish(6, 0) = 0; cancel(0) = 0; task(0) = 28; cancel(1) = 2; finish(7, 0) = 0\n"
            + "cancel(1) = 0; cancel(2) = 0; cancel(3) = 0; task(1) = 28; task(2) = 3",
        "cancel(0) = 0; component(2, 0, 0, 0) = 0; cancel(0) = 0; start() = 0; cancel(0) = 0\n"
            + "shutdown() = 0; cancel(0) = 0");
  }

  private static void shutdownTasks() {
    Boundary.holds("Promise 12", "The waiting tasks are cancelled", """
        component(2, 0, -1, 0) = 0; start() = 0; submit(0, 1, true) = 0; submit(0, 0, true) = 1
        submit(0, 0, true) = 2; submit(0, 0, false) = 3; shutdown() = 1; task(0) = 2
        task(1) = 228; task(2) = 3; task(3) = 3; state(7) = 0; finish(6, 0) = 0; task(0) = 20
        task(2) = 3; events() = 4
        """, """
        component(0, 1, -1, 0) = 0; start() = 0; call(0, 0, 0) = 20; submit(0, 0, true) = 0
        submit(0, 0, false) = 1; submit(0, 0, true) = 2; cancel(0) = 2; cancel(1) = 2
        shutdown() = 2; task(0) = 236; task(1) = 12; task(2) = 3
        """);
  }

  private static void shutdownLines() {
    String sentence = "every caller that waits, by ascending number, leaves its line and gets"
        + " STOPPED";
    Boundary.holds("Promise 12", sentence, """
        component(2, 0, -1, 0) = 0; component(1, 1, 5, 0) = 1; component(0, 1, 100, 0) = 2
        start() = 0; create(1) = 0; call(0, 0, 1) = 20; call(0, 8, 1) = 20; call(0, 2, 0) = 20
        call(1, 0, 0) = 21; call(2, 8, 0) = 21; call(3, 2, 0) = 21; call(4, 0, 1) = 21
        call(5, 2, 0) = 21; submit(8, 0, true) = 0; submit(2, 0, false) = 1; shutdown() = 7
        result(1) = 13; result(2) = 13; result(3) = 13; result(4) = 13; result(5) = 13
        result(6) = 13; result(7) = 13; result(0) = -1; state(0) = 3; state(1) = 0
        state(5) = 0; state(7) = 0; waiting(0) = 0; waiting(8) = 0; waiting(2) = 0
        task(0) = 228; task(1) = 4; finish(0, 0) = 0; state(3) = 0; finish(0, 0) = 0
        finish(0, 0) = 0; result(2) = 13; instances(0) = 0
        """, """
        component(2, 0, -1, 0) = 0; component(2, 0, 0, 0) = 1; start() = 0; call(0, 0, 1) = 20
        submit(1, 0, true) = 0; call(6, 0, 0) = 21; call(1, 1, 0) = 20; call(1, 0, 0) = 21
        shutdown() = 2; result(1) = 13; state(1) = 1; result(6) = 13; state(6) = 1
        task(0) = 2; finish(6, 0) = 0; task(0) = 20; finish(1, 0) = 0; result(1) = 0
        """);
    Boundary.holds("Promise 12", "Answers how many got STOPPED", "start() = 0; shutdown() = 0", """
        component(0, 1, -1, 0) = 0; start() = 0; call(0, 0, 0) = 20; shutdown() = 0
        """, """
        component(0, 1, -1, 0) = 0; start() = 0; call(0, 0, 0) = 20; call(1, 0, 0) = 21
        shutdown() = 1
        """);
  }

  private static void shutdownPhases() {
    Boundary.holds("Promise 12", "the container is STOPPING; if no caller has a method, END", """
        component(0, 1, 0, 0) = 0; component(2, 1, 0, 0) = 1; start() = 1; call(0, 0, 0) = 20
        finish(0, 0) = 0; shutdown() = 0; instances(0) = 0; instances(1) = 0
        news: created 0, created 1, entered 1 by 0, left 1 by 0, destroyed 1, destroyed 0
        """, """
        component(0, 1, 0, 0) = 0; component(2, 1, 0, 0) = 1; start() = 1; call(5, 0, 0) = 20
        shutdown() = 0; instances(0) = 1; instances(1) = 1; finish(5, 0) = 0; instances(0) = 0
        instances(1) = 0
        """, """
        component(2, 1, 0, 0) = 0; start() = 1; submit(0, 0, true) = 0; submit(0, 0, true) = 1
        finish(6, 0) = 0; shutdown() = 0; instances(0) = 1; finish(7, 0) = 0; instances(0) = 0
        """);
    Boundary.holds("Promise 12", "-1 if the container is not RUNNING", """
        component(2, 1, 0, 0) = 0; shutdown() = -1; start() = 1; call(0, 0, 0) = 20
        shutdown() = 0; shutdown() = -1; finish(0, 0) = 0; shutdown() = -1; instances(0) = 0
        """);
  }
}
