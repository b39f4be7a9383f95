/** Promises 6, 7, 8 and 16 on sessions. */
public final class StatefulTest {
  public static void main(String[] args) {
    creating();
    calling();
    ending();
    lines();
    puttingAway();
    Script.end();
  }

  private static void creating() {
    Script.run("promise 6, sessions are numbered over all components", """
        component(1, 2, 0, 0) = 0; component(1, 1, 0, 0) = 1; component(0, 1, 0, 0) = 2
        start() = 0; session(0) = 0; instances(0) = 0
        create(1) = 0; create(0) = 1; call(0, 2, 0) = 20; create(0) = 2
        news: created 0, created 1, created 2, entered 2 by 0, created 3
        session(0) = 1; session(1) = 1; session(2) = 1; session(3) = 0
        instances(0) = 2; instances(1) = 1
        """);
    Script.run("promise 6, wrong components", """
        component(0, 1, 0, 0) = 0; component(1, 1, 0, 0) = 1; component(2, 1, 0, 0) = 2
        create(1) = -1; start() = 1
        create(0) = -1; create(2) = -1; create(3) = -1; create(-1) = -1; create(8) = -1
        create(MIN) = -1; create(MAX) = -1; events() = 1; create(1) = 0
        shutdown() = 0; create(1) = -1
        """);
    StringBuilder all = new StringBuilder("component(1, 4, 0, 0) = 0; start() = 0\n");
    for (int s = 0; s < 24; s++) {
      all.append("create(0) = ").append(s).append('\n');
    }
    Script.run("promise 6, at most 24 sessions, gone or not", all + """
        create(0) = -1; session(23) = 1; session(20) = 1; session(19) = 3; session(24) = 0
        call(0, 31, 1) = 20; call(1, 32, 0) = -1; finish(0, 0) = 0; session(23) = 0
        create(0) = -1; events() = 47; waiting(31) = 0; waiting(32) = -1
        """);
    Script.run("promise 6, creating settles", """
        component(1, 1, 0, 0) = 0; start() = 0; create(0) = 0; create(0) = 1
        news: created 0, created 1, putaway 0; session(0) = 3; session(1) = 1
        """);
    Script.run("promise 6, a new session is put away at once if the others are in use", """
        component(1, 1, 0, 0) = 0; start() = 0; create(0) = 0; call(0, 8, 0) = 20
        create(0) = 1; session(0) = 2; session(1) = 3; instances(0) = 1
        news: created 0, entered 0 by 0, created 1, putaway 1
        """);
  }

  private static void calling() {
    Script.run("promise 7, a session serves one method at a time", """
        component(1, 2, 0, 0) = 0; component(1, 2, 5, 0) = 1; start() = 0
        create(0) = 0; create(1) = 1
        call(0, 8, 0) = 20; session(0) = 2; instance(0) = 0; call(1, 8, 0) = 11
        call(0, 9, 0) = 20; instance(0) = 1; call(1, 9, 0) = 21; state(1) = 8
        waiting(9) = 1; waiting(8) = 0
        """);
    Script.run("promise 7, LOOPBACK wherever in the stack the method is", """
        component(1, 2, 5, 0) = 0; component(2, 0, 0, 0) = 1; start() = 0
        create(0) = 0; create(0) = 1
        call(0, 8, 0) = 20; call(0, 1, 0) = 20; call(0, 8, 0) = 12; call(0, 8, 1) = 12
        call(0, 8, 2) = 12; state(0) = 2; result(0) = 12; call(0, 9, 0) = 20
        call(0, 8, 0) = 12; call(0, 9, 0) = 12; finish(0, 0) = 0; call(0, 9, 0) = 20
        waiting(8) = 0
        """);
    Script.run("promise 7, the modes of a session are 0 to 2", """
        component(1, 2, 5, 0) = 0; start() = 0; create(0) = 0
        call(0, 8, -1) = -1; call(0, 8, 3) = -1; call(0, 8, MAX) = -1; call(0, 9, 0) = -1
        call(0, 0, 0) = -1; state(0) = 0
        call(0, 8, 2) = 20; finish(0, 0) = 0; session(0) = 0
        call(0, 8, 0) = 9; call(0, 8, 1) = 9; call(0, 8, 3) = -1; result(0) = 9; events() = 4
        """);
    Script.run("promise 7, a session that is put away comes into memory first", """
        component(1, 1, 0, 0) = 0; start() = 0; create(0) = 0; create(0) = 1
        news: created 0, created 1, putaway 0
        call(0, 8, 0) = 20; news: activated 0, entered 0 by 0, putaway 1
        session(0) = 2; session(1) = 3; instance(0) = 0
        call(1, 9, 1) = 20; news: activated 1, entered 1 by 1; instances(0) = 2
        finish(1, 0) = 0; news: left 1 by 1, destroyed 1; instances(0) = 1
        """);
  }

  private static void ending() {
    Script.run("promise 8, plain: it stays but for a system exception", """
        component(1, 4, 0, 0) = 0; application(1, false) = true; start() = 0
        create(0) = 0; create(0) = 1; create(0) = 2; news: created 0, created 1, created 2
        call(0, 8, 0) = 20; finish(0, 0) = 0; session(0) = 1
        call(0, 9, 0) = 20; finish(0, 1) = 1; session(1) = 1
        call(0, 10, 0) = 20; finish(0, 2) = 8; session(2) = 0
        news: entered 0 by 0, left 0 by 0, entered 1 by 0, left 1 by 0,\
         entered 2 by 0, left 2 by 0, discarded 2
        instances(0) = 2
        """);
    Script.run("promise 8, removing: it never stays", """
        component(1, 4, 0, 0) = 0; application(1, false) = true; start() = 0
        create(0) = 0; create(0) = 1; create(0) = 2; news: created 0, created 1, created 2
        call(0, 8, 1) = 20; session(0) = 2; finish(0, 0) = 0; session(0) = 0
        call(0, 9, 1) = 20; finish(0, 1) = 1; session(1) = 0
        call(0, 10, 1) = 20; finish(0, 2) = 8; session(2) = 0
        news: entered 0 by 0, left 0 by 0, destroyed 0, entered 1 by 0, left 1 by 0,\
         destroyed 1, entered 2 by 0, left 2 by 0, discarded 2
        instances(0) = 0
        """);
    Script.run("promise 8, removing when well: it stays with an application exception", """
        component(1, 4, 0, 0) = 0; application(1, false) = true; start() = 0
        create(0) = 0; create(0) = 1; create(0) = 2; news: created 0, created 1, created 2
        call(0, 8, 2) = 20; finish(0, 0) = 0; session(0) = 0
        call(0, 9, 2) = 20; finish(0, 1) = 1; session(1) = 1
        call(0, 10, 2) = 20; finish(0, 2) = 8; session(2) = 0
        news: entered 0 by 0, left 0 by 0, destroyed 0, entered 1 by 0, left 1 by 0,\
         entered 2 by 0, left 2 by 0, discarded 2
        """);
  }

  private static void lines() {
    Script.run("promise 8, who waits for a session that is gone gets NOSUCH", """
        component(1, 2, -1, 0) = 0; start() = 0; create(0) = 0; submit(8, 1, true) = 0
        call(4, 8, 0) = 21; call(2, 8, 0) = 21; waiting(8) = 2
        finish(6, 0) = 0; task(0) = 20; waiting(8) = 0; state(2) = 0; state(4) = 0
        result(2) = 9; result(4) = 9; session(0) = 0; finish(4, 0) = -1
        """);
    Script.run("promise 8, the next in line enters with its own mode", """
        component(1, 2, -1, 0) = 0; application(1, true) = true; start() = 0; create(0) = 0
        call(0, 8, 0) = 20; call(1, 8, 2) = 21; call(2, 8, 1) = 21; call(3, 8, 0) = 21
        finish(0, 3) = 3; state(1) = 1; finish(1, 5) = 5; state(2) = 1; waiting(8) = 1
        finish(2, 7) = 7; session(0) = 0; result(3) = 9
        news: created 0, entered 0 by 0, left 0 by 0, entered 0 by 1, left 0 by 1,\
         entered 0 by 2, left 0 by 2, destroyed 0
        """);
    Script.run("settling, a session with a line goes on in use and is not put away", """
        component(1, 1, -1, 0) = 0; start() = 0; create(0) = 0; call(0, 8, 0) = 20
        call(1, 8, 0) = 21; create(0) = 1; finish(0, 0) = 0
        session(0) = 2; session(1) = 3; finish(1, 0) = 0; session(0) = 1
        """);
  }

  private static void puttingAway() {
    Script.run("settling, the session whose latest use lies furthest back is put away", """
        component(1, 3, 0, 0) = 0; start() = 0; create(0) = 0; create(0) = 1; create(0) = 2
        call(0, 8, 0) = 20; finish(0, 0) = 0; create(0) = 3
        session(0) = 1; session(1) = 3; session(2) = 1; session(3) = 1
        call(0, 9, 0) = 20; session(2) = 3; finish(0, 0) = 0; create(0) = 4; session(0) = 3
        session(3) = 1; session(1) = 1; session(4) = 1
        """);
    Script.run("settling, entering is no use, ending is", """
        component(1, 2, 0, 0) = 0; start() = 0; create(0) = 0; create(0) = 1
        call(0, 8, 0) = 20; call(1, 9, 0) = 20; finish(1, 0) = 0; finish(0, 0) = 0
        create(0) = 2; session(0) = 1; session(1) = 3
        """);
    Script.run("settling, sessions in use stay in memory beyond the size", """
        component(1, 1, 0, 0) = 0; start() = 0; create(0) = 0; create(0) = 1; create(0) = 2
        call(0, 8, 0) = 20; call(1, 9, 0) = 20; call(2, 10, 0) = 20; instances(0) = 3
        news: created 0, created 1, putaway 0, created 2, putaway 1,\
         activated 0, entered 0 by 0, putaway 2, activated 1, entered 1 by 1,\
         activated 2, entered 2 by 2
        finish(2, 0) = 0; news: left 2 by 2, putaway 2; instances(0) = 2
        finish(0, 0) = 0; news: left 0 by 0, putaway 0; instances(0) = 1
        finish(1, 0) = 0; news: left 1 by 1; instances(0) = 1; session(1) = 1
        """);
    Script.run("settling, components are looked at by ascending number, each by itself", """
        component(1, 1, 0, 0) = 0; component(1, 2, 0, 0) = 1; start() = 0
        create(1) = 0; create(0) = 1; create(1) = 2; create(1) = 3; create(0) = 4
        session(0) = 3; session(1) = 3; session(2) = 1; session(3) = 1; session(4) = 1
        instances(0) = 1; instances(1) = 2
        """);
    Script.run("promise 16, sessions that never were", """
        component(1, 1, 0, 0) = 0; session(0) = 0; start() = 0; session(-1) = 0
        session(MIN) = 0; session(24) = 0; session(MAX) = 0; create(0) = 0; session(0) = 1
        session(1) = 0
        """);
  }
}
