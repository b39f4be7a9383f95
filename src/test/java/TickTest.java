/** Promise 9: tick. */
public final class TickTest {
  public static void main(String[] args) {
    wrongTicks();
    timeouts();
    settlingAfterTimeouts();
    idleSessions();
    Script.end();
  }

  private static void wrongTicks() {
    Script.run("promise 9, n is 0 to 50 and the container is running", """
        component(1, 1, 0, 100) = 0; tick(0) = -1; tick(1) = -1; start() = 0; create(0) = 0
        tick(-1) = -1; tick(51) = -1; tick(MIN) = -1; tick(MAX) = -1; tick(0) = 0
        tick(50) = 0; tick(49) = 0; tick(0) = 0; tick(1) = 100
        call(0, 8, 0) = 9; create(0) = 1; call(0, 9, 0) = 20
        shutdown() = 0; tick(1) = -1; tick(0) = -1; finish(0, 0) = 0; tick(1) = -1
        """);
  }

  private static void timeouts() {
    Script.run("promise 9, a caller that waits gets TIMEOUT when its time is over", """
        component(0, 1, 3, 0) = 0; start() = 0; call(0, 0, 0) = 20; call(1, 0, 0) = 21
        tick(1) = 0; call(2, 0, 0) = 21; tick(1) = 0; state(1) = 8; tick(1) = 1
        state(1) = 0; result(1) = 10; state(2) = 8; waiting(0) = 1; tick(1) = 1
        result(2) = 10; waiting(0) = 0; news: created 0, entered 0 by 0
        """);
    Script.run("promise 9, many steps are taken one by one", """
        component(0, 1, 3, 0) = 0; component(0, 1, 100, 0) = 1; component(0, 1, 1, 0) = 2
        start() = 0; call(0, 0, 0) = 20; call(0, 1, 0) = 20; call(0, 2, 0) = 20
        call(1, 0, 0) = 21; call(2, 1, 0) = 21; call(3, 2, 0) = 21
        tick(50) = 2; tick(49) = 0; state(2) = 8; tick(1) = 1; result(2) = 10
        """);
    Script.run("promise 9, a timeout of -1 never ends", """
        component(2, 0, -1, 0) = 0; component(1, 1, -1, 0) = 1; start() = 0; create(1) = 0
        call(0, 0, 1) = 20; call(1, 0, 0) = 21; call(0, 8, 0) = 20; call(2, 8, 0) = 21
        tick(50) = 0; tick(50) = 0; tick(50) = 0; state(1) = 8; state(2) = 8
        """);
    Script.run("promise 9, the timeout of a session is its component's", """
        component(1, 2, 4, 0) = 0; component(1, 2, 2, 0) = 1; start() = 0
        create(0) = 0; create(1) = 1; call(0, 8, 0) = 20; call(0, 9, 0) = 20
        call(1, 8, 0) = 21; call(2, 9, 0) = 21; tick(1) = 0; tick(1) = 1; result(2) = 10
        result(1) = -1; tick(1) = 0; tick(1) = 1; result(1) = 10; session(0) = 2
        """);
    Script.run("promise 9, a worker without a method has done its task with TIMEOUT", """
        component(0, 1, 2, 0) = 0; start() = 0; call(0, 0, 0) = 20; submit(0, 0, true) = 0
        submit(0, 0, false) = 1; submit(0, 0, true) = 2; waiting(0) = 2; task(2) = 1
        tick(1) = 0; tick(1) = 2; task(0) = 180; task(1) = 4; task(2) = 2; waiting(0) = 1
        state(6) = 8; state(7) = 0; result(6) = 10; result(7) = 10; tick(1) = 0; tick(1) = 1
        task(2) = 180
        """);
    Script.run("promise 9, a worker with a method goes on with its task", """
        component(0, 1, 2, 0) = 0; component(2, 0, 1, 0) = 1; start() = 0; call(0, 1, 1) = 20
        submit(0, 0, true) = 0; call(6, 1, 0) = 21; state(6) = 9; tick(1) = 1; state(6) = 1
        result(6) = 10; task(0) = 2; finish(6, 0) = 0; task(0) = 20
        """);
  }

  private static void settlingAfterTimeouts() {
    Script.run("promise 9, the lines are settled after all timeouts of a step", """
        component(2, 1, 2, 0) = 0; component(2, 1, 2, 0) = 1; start() = 2
        call(0, 1, 0) = 20; call(0, 0, 0) = 20; call(1, 1, 1) = 21; call(4, 0, 1) = 21
        tick(1) = 0; call(2, 1, 0) = 21; call(3, 0, 0) = 21
        news: created 0, created 1, entered 1 by 0, entered 0 by 0
        tick(1) = 2; news: entered 0 by 3, entered 1 by 2
        result(1) = 10; result(4) = 10; state(2) = 1; state(3) = 1; result(2) = -1
        """);
    Script.run("promise 9, who times out in the same step does not enter", """
        component(2, 1, 2, 0) = 0; start() = 1; call(0, 0, 0) = 20; call(1, 0, 1) = 21
        call(2, 0, 0) = 21; tick(2) = 2; result(2) = 10; state(2) = 0
        """);
    Script.run("promise 9, a free worker takes the next task in the same step", """
        component(0, 1, 1, 0) = 0; component(2, 0, 5, 0) = 1; start() = 0; call(0, 0, 0) = 20
        submit(0, 0, true) = 0; submit(0, 0, true) = 1; submit(1, 0, true) = 2
        task(2) = 1; tick(1) = 2; task(2) = 2; state(6) = 1; state(7) = 0
        news: created 0, entered 0 by 0, created 1, entered 1 by 6
        """);
    Script.run("promise 9, a second task that waits counts from when it was taken", """
        component(0, 1, 2, 0) = 0; start() = 0; call(0, 0, 0) = 20; submit(0, 0, true) = 0
        submit(0, 0, true) = 1; submit(0, 0, true) = 2; submit(0, 0, true) = 3
        submit(0, 0, true) = 4; tick(1) = 0; tick(4) = 4; task(3) = 180; task(4) = 2
        tick(1) = 1; task(4) = 180
        """);
  }

  private static void idleSessions() {
    Script.run("promise 9, a session goes when it was not used for its limit", """
        component(1, 4, 0, 3) = 0; start() = 0; create(0) = 0; tick(2) = 0; create(0) = 1
        session(0) = 1; tick(1) = 100; session(0) = 0; session(1) = 1; news: created 0,\
         created 1, destroyed 0
        tick(1) = 0; tick(1) = 100; news: destroyed 1; instances(0) = 0
        """);
    Script.run("promise 9, one that is put away is dropped", """
        component(1, 1, 0, 2) = 0; component(1, 4, 0, 0) = 1; start() = 0
        create(0) = 0; create(0) = 1; create(1) = 2
        tick(50) = 200; news: created 0, created 1, putaway 0, created 2, dropped 0, destroyed 1
        session(2) = 1
        """);
    Script.run("promise 9, one in use stays, and its time runs from the end of the method", """
        component(1, 4, 0, 2) = 0; start() = 0; create(0) = 0; call(0, 8, 0) = 20
        tick(10) = 0; session(0) = 2; finish(0, 0) = 0; tick(1) = 0; session(0) = 1
        tick(1) = 100; session(0) = 0
        """);
    Script.run("promise 9, a session that settling lets a caller enter stays", """
        component(1, 4, 1, 1) = 0; start() = 0; create(0) = 0; call(0, 8, 0) = 20
        call(1, 8, 0) = 21; tick(1) = 1; call(1, 8, 0) = 21; finish(0, 0) = 0
        tick(3) = 0; session(0) = 2; finish(1, 0) = 0; tick(1) = 100
        """);
    Script.run("promise 9, timeouts and sessions are counted over all steps", """
        component(1, 1, 1, 1) = 0; component(1, 4, 0, 5) = 1; component(0, 1, 2, 0) = 2
        start() = 0; create(0) = 0; create(0) = 1; create(1) = 2; call(0, 2, 0) = 20
        call(1, 2, 0) = 21; call(2, 2, 0) = 21; tick(6) = 302
        news: created 0, created 1, putaway 0, created 2, created 3, entered 3 by 0,\
         dropped 0, destroyed 1, destroyed 2
        """);
  }
}
