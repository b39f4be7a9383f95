/** Promises 10, 11 and 17: submit, cancel and task. */
public final class TaskTest {
  public static void main(String[] args) {
    submitting();
    taking();
    results();
    cancelling();
    asking();
    Script.end();
  }

  private static void submitting() {
    Script.run("promise 10, wrong tasks", """
        component(0, 1, 0, 0) = 0; component(1, 1, 0, 0) = 1; component(2, 0, 0, 0) = 2
        submit(0, 0, true) = -1; start() = 0
        submit(1, 0, true) = -1; submit(3, 0, true) = -1; submit(-1, 0, true) = -1
        submit(8, 0, true) = -1; submit(MIN, 0, false) = -1; submit(MAX, 0, false) = -1
        submit(0, 1, true) = -1; submit(0, -1, true) = -1; submit(2, 2, true) = -1
        create(1) = 0; submit(8, 3, true) = -1; submit(8, -1, false) = -1
        task(0) = 0; events() = 1; submit(8, 2, true) = 0; submit(2, 1, false) = 1
        shutdown() = 0; submit(0, 0, true) = -1; task(2) = 0
        """);
    StringBuilder all = new StringBuilder("component(0, 1, 0, 0) = 0; start() = 0\n");
    all.append("call(0, 0, 0) = 20\n");
    for (int k = 0; k < 24; k++) {
      all.append("submit(0, 0, true) = ").append(k).append('\n');
    }
    Script.run("promise 10, at most 24 tasks, done or not", all + """
        submit(0, 0, true) = -1; task(23) = 196; task(24) = 0; finish(0, 0) = 0
        submit(0, 0, true) = -1; state(6) = 0
        """);
  }

  private static void taking() {
    Script.run("settling, worker 6 before 7, tasks by ascending number", """
        component(0, 4, 0, 0) = 0; start() = 0
        submit(0, 0, true) = 0; state(6) = 1; state(7) = 0
        submit(0, 0, true) = 1; submit(0, 0, true) = 2; submit(0, 0, true) = 3; state(7) = 1
        task(2) = 1; task(3) = 1; finish(7, 0) = 0; task(1) = 20; task(2) = 2; task(3) = 1
        finish(6, 0) = 0; task(0) = 20; task(3) = 2; instance(7) = 1; instance(6) = 0
        news: created 0, entered 0 by 6, created 1, entered 1 by 7, left 1 by 7,\
         entered 1 by 7, left 0 by 6, entered 0 by 6
        """);
    Script.run("settling, a task that is done at once frees its worker for the next", """
        component(0, 1, 0, 0) = 0; component(2, 2, 0, 0) = 1; component(1, 1, 0, 0) = 2
        start() = 0; create(2) = 0; call(0, 8, 1) = 20; finish(0, 0) = 0
        submit(0, 0, true) = 0; submit(0, 0, true) = 1; submit(1, 1, true) = 2
        submit(8, 0, true) = 3; task(0) = 2; task(1) = 196; task(2) = 164; task(3) = 164
        state(7) = 0; result(7) = 9; result(6) = -1
        """);
    Script.run("settling, the lines come before the tasks", """
        component(0, 1, -1, 0) = 0; component(2, 0, 0, 0) = 1; start() = 0
        submit(1, 0, true) = 0; submit(0, 0, true) = 1; submit(0, 0, true) = 2
        call(1, 0, 0) = 21; finish(7, 0) = 0; task(1) = 20; state(1) = 1; task(2) = 2
        state(7) = 8; waiting(0) = 1
        """);
    Script.run("settling, the tasks come before sessions are put away", """
        component(1, 1, 0, 0) = 0; component(2, 0, 0, 0) = 1; start() = 0
        create(0) = 0; create(0) = 1
        submit(1, 0, true) = 0; submit(1, 0, true) = 1; submit(8, 0, true) = 2; task(2) = 1
        news: created 0, created 1, putaway 0, created 2, entered 2 by 6, entered 2 by 7
        finish(6, 0) = 0; news: left 2 by 6, activated 0, entered 0 by 6, putaway 1
        """);
    Script.run("settling, a task's call begins a singleton", """
        component(2, 0, 0, 0) = 0; component(2, 0, 0, 0) = 1; depends(0, 1) = true; start() = 0
        submit(0, 1, true) = 0; news: created 0, created 1, entered 1 by 6
        """);
    Script.run("promise 7, a worker calls only from within a method", """
        component(0, 4, 0, 0) = 0; component(0, 1, 0, 0) = 1; component(0, 1, -1, 0) = 2
        start() = 0; call(6, 0, 0) = -1; call(7, 0, 0) = -1; submit(0, 0, true) = 0
        call(6, 0, 0) = 20; call(7, 0, 0) = -1; state(6) = 2; finish(6, 3) = 8
        task(0) = 2; state(6) = 1; result(6) = 8; call(0, 1, 0) = 20; call(6, 1, 0) = 11
        task(0) = 2; finish(6, 0) = 0; task(0) = 20; call(6, 0, 0) = -1
        call(0, 2, 0) = 20; submit(2, 0, true) = 1; state(6) = 8; finish(6, 0) = -1
        call(6, 0, 0) = -1; finish(0, 0) = 0; state(6) = 1
        """);
  }

  private static void results() {
    Script.run("promise 17, a result is told if it was wanted", """
        component(2, 0, 0, 0) = 0; application(3, true) = true; start() = 0
        submit(0, 0, true) = 0; submit(0, 0, false) = 1
        finish(6, 7) = 7; finish(7, 7) = 7; task(0) = 132; task(1) = 4
        submit(0, 0, true) = 2; submit(0, 0, false) = 3
        finish(6, 2) = 8; finish(7, 2) = 8; task(2) = 148; task(3) = 4
        submit(0, 0, true) = 4; submit(0, 0, false) = 5
        finish(6, 0) = 0; finish(7, 0) = 0; task(4) = 20; task(5) = 4; result(6) = 0
        """);
    Script.run("promise 8, the task has the result of the last method alone", """
        component(2, 0, 0, 0) = 0; start() = 0; submit(0, 0, true) = 0; call(6, 0, 0) = 20
        call(6, 0, 1) = 12; task(0) = 2; finish(6, 1) = 8; task(0) = 2; finish(6, 0) = 0
        task(0) = 20
        """);
    Script.run("settling, NOSUCH for a worker in the line of a session that is gone", """
        component(1, 1, -1, 0) = 0; start() = 0; create(0) = 0; call(0, 8, 1) = 20
        submit(8, 0, true) = 0; submit(8, 0, false) = 1; submit(8, 0, true) = 2
        task(0) = 2; task(2) = 1; finish(0, 0) = 0; task(0) = 164; task(1) = 4
        task(2) = 164; state(6) = 0; result(7) = 9
        """);
  }

  private static void cancelling() {
    Script.run("promise 11, a waiting task is cancelled and never taken", """
        component(0, 4, 0, 0) = 0; start() = 0; submit(0, 0, true) = 0; submit(0, 0, true) = 1
        submit(0, 0, true) = 2; submit(0, 0, true) = 3; cancel(2) = 1; task(2) = 3
        cancel(2) = 0; task(2) = 3; finish(6, 0) = 0; task(2) = 3; task(3) = 2
        finish(6, 0) = 0; finish(7, 0) = 0; task(2) = 3; events() = 8; state(6) = 0
        """);
    Script.run("promise 11, for a task that a worker has it is noted, no more", """
        component(0, 1, -1, 0) = 0; start() = 0; submit(0, 0, true) = 0
        submit(0, 0, false) = 1; cancel(0) = 2; task(0) = 10; cancel(0) = 2; task(0) = 10
        cancel(1) = 2; task(1) = 10; state(7) = 8; finish(6, 0) = 0; task(0) = 28
        cancel(0) = 0; task(0) = 28; state(7) = 1; finish(7, 0) = 0; task(1) = 12
        cancel(1) = 0; task(1) = 12
        """);
    Script.run("promise 11, no such task, or done", """
        component(0, 1, 0, 0) = 0; cancel(0) = 0; start() = 0; cancel(0) = 0; cancel(-1) = 0
        cancel(MIN) = 0; cancel(24) = 0; cancel(MAX) = 0; submit(0, 0, true) = 0
        cancel(1) = 0; finish(6, 0) = 0; cancel(0) = 0; task(0) = 20
        """);
    Script.run("promise 11, in any phase", """
        component(0, 1, 0, 0) = 0; component(2, 0, 0, 0) = 1; start() = 0
        submit(0, 0, true) = 0; submit(1, 0, true) = 1; submit(1, 0, true) = 2
        shutdown() = 0; cancel(0) = 2; task(0) = 10; cancel(2) = 0; task(2) = 3
        finish(6, 0) = 0; task(0) = 28; cancel(0) = 0; cancel(1) = 2; finish(7, 0) = 0
        cancel(1) = 0; task(1) = 28; cancel(2) = 0
        """);
  }

  private static void asking() {
    Script.run("promise 17, tasks that never were", """
        component(0, 1, 0, 0) = 0; task(0) = 0; start() = 0; task(-1) = 0; task(MIN) = 0
        task(24) = 0; task(MAX) = 0; submit(0, 0, true) = 0; task(0) = 2; task(1) = 0
        """);
  }
}
