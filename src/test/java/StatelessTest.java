/** Promises 7 and 8 on pools of stateless instances. */
public final class StatelessTest {
  public static void main(String[] args) {
    entering();
    comingBack();
    discarding();
    waitingInLine();
    ownStack();
    wrongCalls();
    Script.end();
  }

  private static void entering() {
    Script.run("promise 7, a pool grows up to its size", """
        component(0, 3, -1, 0) = 0; start() = 0; instances(0) = 0
        call(0, 0, 0) = 20; news: created 0, entered 0 by 0; instances(0) = 1
        call(1, 0, 0) = 20; news: created 1, entered 1 by 1; instances(0) = 2
        call(2, 0, 0) = 20; news: created 2, entered 2 by 2; instances(0) = 3
        call(3, 0, 0) = 21; news: none; instances(0) = 3; waiting(0) = 1; state(3) = 8
        instance(3) = -1; result(3) = -1
        """);
    Script.run("promise 7, instances are numbered over all components", """
        component(0, 1, 0, 0) = 0; component(0, 1, 0, 0) = 1; start() = 0
        call(0, 1, 0) = 20; call(1, 0, 0) = 20; instance(0) = 0; instance(1) = 1
        instances(0) = 1; instances(1) = 1
        """);
    Script.run("promise 7, a timeout of 0 makes BUSY", """
        component(0, 1, 0, 0) = 0; start() = 0; call(0, 0, 0) = 20
        call(1, 0, 0) = 11; result(1) = 11; state(1) = 0; waiting(0) = 0; result(0) = -1
        """);
  }

  private static void comingBack() {
    Script.run("promise 7, the instance that came back latest is taken", """
        component(0, 3, 0, 0) = 0; start() = 0
        call(0, 0, 0) = 20; call(1, 0, 0) = 20; call(2, 0, 0) = 20
        finish(1, 0) = 0; finish(2, 0) = 0; finish(0, 0) = 0; news: created 0, entered 0 by 0,\
         created 1, entered 1 by 1, created 2, entered 2 by 2, left 1 by 1, left 2 by 2,\
         left 0 by 0
        instances(0) = 3
        call(3, 0, 0) = 20; instance(3) = 0; call(4, 0, 0) = 20; instance(4) = 2
        call(5, 0, 0) = 20; instance(5) = 1; call(0, 0, 0) = 11
        """);
    Script.run("promise 7, a free instance goes before a new one", """
        component(0, 2, 0, 0) = 0; start() = 0; call(0, 0, 0) = 20; finish(0, 0) = 0
        call(1, 0, 0) = 20; instance(1) = 0; instances(0) = 1
        call(2, 0, 0) = 20; instance(2) = 1
        """);
  }

  private static void discarding() {
    Script.run("promise 8, a system exception discards the instance", """
        component(0, 2, 0, 0) = 0; start() = 0; call(0, 0, 0) = 20; call(1, 0, 0) = 20
        finish(0, 7) = 8; result(0) = 8; instances(0) = 1
        news: created 0, entered 0 by 0, created 1, entered 1 by 1, left 0 by 0, discarded 0
        call(0, 0, 0) = 20; instance(0) = 2; instances(0) = 2
        """);
    Script.run("promise 8, an application exception spares the instance", """
        component(0, 1, 0, 0) = 0; application(3, false) = true; start() = 0
        call(0, 0, 0) = 20; finish(0, 3) = 3; result(0) = 3; instances(0) = 1
        news: created 0, entered 0 by 0, left 0 by 0
        call(1, 0, 0) = 20; instance(1) = 0
        """);
  }

  private static void waitingInLine() {
    Script.run("promise 8, the line is served in its order", """
        component(0, 1, -1, 0) = 0; start() = 0; call(5, 0, 0) = 20
        call(3, 0, 0) = 21; call(1, 0, 0) = 21; call(2, 0, 0) = 21; waiting(0) = 3
        finish(5, 0) = 0; state(3) = 1; state(1) = 8; state(2) = 8; waiting(0) = 2
        finish(3, 0) = 0; state(1) = 1; state(2) = 8; finish(1, 5) = 8
        state(2) = 1; instance(2) = 1; waiting(0) = 0; result(2) = -1
        news: created 0, entered 0 by 5, left 0 by 5, entered 0 by 3, left 0 by 3,\
         entered 0 by 1, left 0 by 1, discarded 0, created 1, entered 1 by 2
        """);
    Script.run("promise 8, each target has a line of its own", """
        component(0, 1, -1, 0) = 0; component(0, 1, 5, 0) = 1; start() = 0
        call(0, 1, 0) = 20; call(0, 0, 0) = 20; call(1, 1, 0) = 21; call(2, 0, 0) = 21
        finish(0, 0) = 0; state(2) = 1; state(1) = 8; finish(0, 0) = 0; state(1) = 1
        """);
    Script.run("promise 7, who comes later goes to the end of the line", """
        component(0, 2, -1, 0) = 0; start() = 0; call(0, 0, 0) = 20; call(1, 0, 0) = 20
        call(2, 0, 0) = 21; call(3, 0, 0) = 21; finish(0, 0) = 0; state(2) = 1
        call(0, 0, 0) = 21; waiting(0) = 2; finish(1, 0) = 0; state(3) = 1; state(0) = 8
        """);
  }

  private static void ownStack() {
    Script.run("promise 7, a caller may enter a pool again, four methods deep", """
        component(0, 4, 0, 0) = 0; component(0, 4, 0, 0) = 1; start() = 0
        call(0, 0, 0) = 20; call(0, 0, 0) = 20; call(0, 1, 0) = 20; call(0, 0, 0) = 20
        state(0) = 4; instance(0) = 3; call(0, 0, 0) = -1; call(0, 1, 0) = -1
        finish(0, 0) = 0; instance(0) = 2; state(0) = 3; finish(0, 6) = 8; instance(0) = 1
        instances(1) = 0; instances(0) = 3; call(0, 0, 0) = 20; instance(0) = 3
        finish(0, 0) = 0; finish(0, 0) = 0; instance(0) = 0; finish(0, 0) = 0
        instance(0) = -1; state(0) = 0; finish(0, 0) = -1
        """);
    Script.run("promise 7, a caller that waits makes no call and ends no method", """
        component(0, 1, 9, 0) = 0; component(0, 1, 0, 0) = 1; start() = 0
        call(0, 0, 0) = 20; call(0, 0, 0) = 21; state(0) = 9; instance(0) = 0
        call(0, 1, 0) = -1; call(0, 0, 0) = -1; finish(0, 0) = -1; state(0) = 9
        tick(8) = 0; tick(1) = 1; state(0) = 1; result(0) = 10; finish(0, 0) = 0
        """);
    Script.run("promise 7, BUSY with a method leaves the caller in it", """
        component(0, 1, 0, 0) = 0; start() = 0; call(0, 0, 0) = 20; call(0, 0, 0) = 11
        state(0) = 1; instance(0) = 0; result(0) = 11; finish(0, 0) = 0; result(0) = 0
        """);
  }

  private static void wrongCalls() {
    Script.run("promise 7, wrong calls", """
        component(0, 2, 0, 0) = 0; component(1, 1, 0, 0) = 1; start() = 0
        call(-1, 0, 0) = -1; call(8, 0, 0) = -1; call(MIN, 0, 0) = -1; call(MAX, 0, 0) = -1
        call(0, -1, 0) = -1; call(0, 2, 0) = -1; call(0, 7, 0) = -1; call(0, MIN, 0) = -1
        call(0, 1, 0) = -1; call(0, 8, 0) = -1; call(0, 32, 0) = -1; call(0, MAX, 0) = -1
        call(0, 0, -1) = -1; call(0, 0, 1) = -1; call(0, 0, 2) = -1; call(0, 0, MAX) = -1
        call(6, 0, 0) = -1; call(7, 0, 0) = -1
        events() = 0; result(0) = -1; state(0) = 0; call(5, 0, 0) = 20
        """);
    Script.run("promise 8, wrong ends", """
        component(0, 2, 0, 0) = 0; start() = 0; call(0, 0, 0) = 20
        finish(0, -1) = -1; finish(0, 8) = -1; finish(0, MIN) = -1; finish(0, MAX) = -1
        finish(-1, 0) = -1; finish(8, 0) = -1; finish(MAX, 0) = -1; finish(1, 0) = -1
        finish(6, 0) = -1; state(0) = 1; result(0) = -1; events() = 2
        finish(0, 7) = 8
        """);
  }
}
