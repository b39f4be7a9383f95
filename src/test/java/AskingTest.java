/** Promises 13 to 21: what can be asked, and that asking changes nothing. */
public final class AskingTest {
  public static void main(String[] args) {
    callers();
    components();
    events();
    Script.end();
  }

  private static void callers() {
    Script.run("promise 13, state", """
        component(0, 4, -1, 0) = 0; start() = 0; state(-1) = -1; state(8) = -1
        state(MIN) = -1; state(MAX) = -1; state(0) = 0; call(0, 0, 0) = 20; state(0) = 1
        call(0, 0, 0) = 20; call(0, 0, 0) = 20; state(0) = 3; call(1, 0, 0) = 20
        call(0, 0, 0) = 21; state(0) = 11; call(2, 0, 0) = 21; state(2) = 8; state(3) = 0
        finish(1, 0) = 0; state(0) = 4; state(2) = 8; state(6) = 0; state(7) = 0
        """);
    Script.run("promise 14, result", """
        component(0, 1, 3, 0) = 0; component(2, 2, 0, 0) = 1; component(1, 1, 0, 0) = 2
        application(4, false) = true; start() = 0; create(2) = 0
        result(-1) = -1; result(8) = -1; result(MIN) = -1; result(MAX) = -1
        result(0) = -1; call(0, 0, 0) = 20; result(0) = -1; call(1, 0, 0) = 21; result(1) = -1
        tick(3) = 1; result(1) = 10; finish(0, 4) = 4; result(0) = 4; call(0, 8, 0) = 20
        result(0) = 4; call(0, 1, 0) = 9; result(0) = 9; call(0, 8, 0) = 12; result(0) = 12
        call(1, 8, 0) = 11; result(1) = 11; finish(0, 0) = 0; result(0) = 0; call(0, 8, 9) = -1
        result(0) = 0; call(0, 0, 0) = 20; call(1, 0, 0) = 21; result(1) = 11; finish(0, 5) = 8
        result(0) = 8; result(1) = 11; call(0, 0, 0) = 21; shutdown() = 1; result(0) = 13
        result(6) = -1; result(7) = -1
        """);
    Script.run("promise 15, instance", """
        component(0, 1, -1, 0) = 0; component(2, 1, 0, 0) = 1; component(1, 1, 0, 0) = 2
        start() = 1; create(2) = 0; instance(-1) = -1; instance(8) = -1; instance(MIN) = -1
        instance(MAX) = -1; instance(0) = -1; call(0, 1, 0) = 20; instance(0) = 0
        call(0, 8, 0) = 20; instance(0) = 1; call(0, 0, 0) = 20; instance(0) = 2
        call(1, 1, 0) = 20; call(1, 0, 0) = 21; instance(1) = 0; call(2, 0, 0) = 21
        instance(2) = -1; finish(0, 0) = 0; instance(0) = 1; instance(1) = 2
        finish(0, 0) = 0; instance(0) = 0; finish(0, 0) = 0; instance(0) = -1
        """);
  }

  private static void components() {
    Script.run("promise 16, session", """
        component(1, 1, 0, 0) = 0; start() = 0; session(0) = 0; create(0) = 0; session(0) = 1
        create(0) = 1; session(0) = 3; call(0, 8, 2) = 20; session(0) = 2; session(1) = 3
        finish(0, 0) = 0; session(0) = 0; session(1) = 3; shutdown() = 0; session(1) = 0
        """);
    Script.run("promise 18, instances", """
        component(0, 2, 0, 0) = 0; component(1, 1, 0, 0) = 1; component(2, 0, 0, 0) = 2
        component(2, 3, 0, 0) = 3; instances(0) = 0; instances(1) = 0; instances(2) = 0
        instances(4) = -1; instances(-1) = -1; instances(8) = -1; instances(MIN) = -1
        instances(MAX) = -1; start() = 0; call(0, 0, 0) = 20; instances(0) = 1
        call(1, 0, 0) = 20; finish(0, 0) = 0; instances(0) = 2; create(1) = 0; create(1) = 1
        instances(1) = 1; call(0, 8, 0) = 20; call(2, 9, 0) = 20; instances(1) = 2
        instances(2) = 0; call(0, 2, 0) = 20; instances(2) = 1; instances(3) = 0
        shutdown() = 0; instances(2) = 1; finish(0, 0) = 0; finish(0, 0) = 0; finish(1, 0) = 0
        instances(2) = 1; instances(1) = 2; finish(2, 0) = 0; instances(2) = 0
        instances(1) = 0; instances(0) = 0
        """);
    Script.run("promise 19, waiting", """
        component(0, 1, -1, 0) = 0; component(1, 1, -1, 0) = 1; component(2, 0, -1, 0) = 2
        waiting(0) = 0; waiting(1) = -1; waiting(2) = 0; waiting(3) = -1; waiting(8) = -1
        waiting(-1) = -1; waiting(32) = -1; waiting(MIN) = -1; waiting(MAX) = -1; start() = 0
        create(1) = 0; waiting(8) = 0; call(0, 0, 0) = 20; call(0, 8, 1) = 20; call(0, 2, 1) = 20
        call(1, 0, 0) = 21; call(2, 0, 0) = 21; call(3, 8, 0) = 21; call(4, 2, 0) = 21
        submit(0, 0, true) = 0; waiting(0) = 3; waiting(8) = 1; waiting(2) = 1
        finish(0, 0) = 0; waiting(2) = 0; finish(0, 0) = 0; waiting(8) = 0; session(0) = 0
        finish(0, 0) = 0; waiting(0) = 2; shutdown() = 2; waiting(0) = 0; waiting(9) = -1
        """);
  }

  private static void events() {
    Script.run("promises 20 and 21, events", """
        component(0, 1, 0, 0) = 0; events() = 0; event(0) = -1; start() = 0; call(5, 0, 0) = 20
        events() = 2; event(0) = 103; event(1) = 1; event(2) = -1; event(-1) = -1
        event(MIN) = -1; event(MAX) = -1; event(64) = -1; finish(5, 7) = 8; events() = 4
        event(0) = 3; event(1) = 104; event(3) = 1; event(4) = -1; submit(0, 0, true) = 0
        event(0) = 375; event(1) = 257
        """);
    StringBuilder many = new StringBuilder("component(0, 1, 0, 0) = 0; start() = 0\n");
    for (int i = 0; i < 50; i++) {
      many.append("call(0, 0, 0) = 20; finish(0, 0) = 0\n");
    }
    Script.run("promise 21, only the latest 64 events can be asked for", many + """
        events() = 101; event(0) = 24; event(1) = 23; event(62) = 24; event(63) = 23
        event(64) = -1; event(65) = -1; event(100) = -1; event(-1) = -1
        call(1, 0, 0) = 20; events() = 102; event(0) = 39; event(1) = 24; event(63) = 24
        event(64) = -1
        """);
    StringBuilder wide = new StringBuilder("component(0, 1, 0, 0) = 0; start() = 0\n");
    for (int i = 0; i < 30; i++) {
      wide.append("call(2, 0, 0) = 20; finish(2, 1) = 8\n");
    }
    Script.run("promise 21, events keep their instances", wide + """
        events() = 120; event(0) = 7427; event(1) = 7480; event(2) = 7479; event(3) = 7425
        event(60) = 3587; event(63) = 3585; event(64) = -1
        """);
  }
}
