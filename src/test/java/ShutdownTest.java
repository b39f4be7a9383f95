/** Promise 12 and the end of a container. */
public final class ShutdownTest {
  public static void main(String[] args) {
    phases();
    stopping();
    ending();
    nothingAfterwards();
    Script.end();
  }

  private static void phases() {
    Script.run("promise 12, only a running container is shut down", """
        component(0, 1, 0, 0) = 0; shutdown() = -1; start() = 0; call(0, 0, 0) = 20
        shutdown() = 0; shutdown() = -1; finish(0, 0) = 0; shutdown() = -1
        """);
    Script.run("promise 12, while stopping, methods end and nothing else happens", """
        component(0, 1, 0, 0) = 0; component(1, 1, 0, 1) = 1; component(2, 0, 0, 0) = 2
        start() = 0; create(1) = 0; call(0, 0, 0) = 20; call(0, 8, 0) = 20; call(1, 2, 0) = 20
        shutdown() = 0; news: created 0, created 1, entered 1 by 0, entered 0 by 0,\
         created 2, entered 2 by 1
        call(0, 2, 0) = -1; call(2, 0, 0) = -1; create(1) = -1; tick(1) = -1; tick(0) = -1
        submit(2, 0, true) = -1; state(0) = 2; session(0) = 2; instances(0) = 1
        finish(0, 0) = 0; news: left 0 by 0; session(0) = 1; instances(1) = 1
        finish(0, 1) = 8; news: left 1 by 0, discarded 1; instances(0) = 0; instances(2) = 1
        finish(1, 0) = 0; news: left 2 by 1, destroyed 0, destroyed 2; instances(2) = 0
        session(0) = 0
        """);
    Script.run("promise 8, while stopping nothing is settled", """
        component(1, 1, 0, 0) = 0; component(2, 0, 0, 0) = 1; start() = 0
        create(0) = 0; create(0) = 1; call(0, 8, 0) = 20; call(1, 9, 0) = 20
        call(2, 1, 0) = 20; news: created 0, created 1, putaway 0, activated 0, entered 0 by 0,\
         putaway 1, activated 1, entered 1 by 1, created 2, entered 2 by 2
        shutdown() = 0; finish(0, 0) = 0; session(0) = 1; news: left 0 by 0; instances(0) = 2
        finish(1, 0) = 0; news: left 1 by 1; finish(2, 0) = 0
        news: left 2 by 2, destroyed 0, destroyed 1, destroyed 2
        """);
  }

  private static void stopping() {
    Script.run("promise 12, who waits gets STOPPED", """
        component(0, 1, -1, 0) = 0; component(2, 0, 9, 0) = 1; component(1, 1, 9, 0) = 2
        start() = 0; create(2) = 0; call(0, 0, 0) = 20; call(0, 1, 1) = 20; call(0, 8, 1) = 20
        call(1, 0, 0) = 21; call(2, 1, 0) = 21; call(3, 8, 0) = 21
        shutdown() = 3; result(1) = 13; result(2) = 13; result(3) = 13; state(1) = 0
        state(2) = 0; state(3) = 0; waiting(0) = 0; waiting(1) = 0; waiting(8) = 0
        result(0) = -1; state(0) = 3
        """);
    Script.run("promise 12, the waiting tasks are cancelled", """
        component(0, 1, -1, 0) = 0; start() = 0; submit(0, 0, true) = 0
        submit(0, 0, true) = 1; submit(0, 0, true) = 2; submit(0, 0, false) = 3
        cancel(1) = 2; shutdown() = 1; task(0) = 2; task(1) = 236; task(2) = 3; task(3) = 3
        state(7) = 0; result(7) = 13; finish(6, 0) = 0; task(0) = 20; state(6) = 0
        """);
    Script.run("promise 12, a worker with a method keeps its task", """
        component(0, 1, -1, 0) = 0; component(2, 0, -1, 0) = 1; start() = 0
        submit(0, 0, true) = 0; call(0, 1, 1) = 20; call(6, 1, 1) = 21; state(6) = 9
        shutdown() = 1; state(6) = 1; result(6) = 13; task(0) = 2; finish(6, 7) = 8
        task(0) = 148; instances(1) = 1; finish(0, 0) = 0; instances(1) = 0
        """);
  }

  private static void ending() {
    Script.run("END, in its order, at once if no caller has a method", """
        component(2, 0, 0, 0) = 0; component(0, 3, 0, 0) = 1; component(1, 1, 0, 0) = 2
        component(2, 1, 0, 0) = 3; component(0, 1, 0, 0) = 4; component(2, 2, 0, 0) = 5
        start() = 1; create(2) = 0; create(2) = 1; create(2) = 2; create(2) = 3
        call(3, 9, 1) = 20; finish(3, 0) = 0
        call(0, 4, 0) = 20; call(0, 1, 0) = 20; call(1, 1, 0) = 20; call(2, 1, 0) = 20
        call(0, 0, 0) = 20; call(4, 5, 0) = 9
        instance(0) = 9; instance(1) = 7; instance(2) = 8; session(3) = 3; session(2) = 3
        session(0) = 3
        finish(0, 0) = 0; finish(1, 0) = 0; finish(2, 0) = 0; finish(0, 0) = 0
        finish(0, 0) = 0; call(0, 10, 0) = 20; finish(0, 0) = 0
        news: created 0, created 1, created 2, putaway 1, created 3, putaway 2, created 4,\
         putaway 3, activated 2, entered 2 by 3, putaway 4, left 2 by 3, destroyed 2,\
         created 5, entered 5 by 0, created 6, entered 6 by 0, created 7, entered 7 by 1,\
         created 8, entered 8 by 2, created 9, entered 9 by 0, left 9 by 0, left 7 by 1,\
         left 8 by 2, left 6 by 0, left 5 by 0, activated 3, entered 3 by 0, left 3 by 0
        instances(1) = 3; shutdown() = 0
        news: dropped 1, destroyed 3, dropped 4, destroyed 6, destroyed 7, destroyed 8,\
         destroyed 5, destroyed 9, destroyed 0
        instances(0) = 0; instances(1) = 0; instances(2) = 0; instances(3) = 0
        instances(4) = 0; instances(5) = 0; session(0) = 0; session(2) = 0; session(3) = 0
        """);
    Script.run("END, the latest begun singleton first, not that of the greatest number", """
        component(2, 0, 0, 0) = 0; component(2, 1, 0, 0) = 1; component(2, 0, 0, 0) = 2
        depends(1, 2) = true; start() = 2; call(0, 0, 0) = 20; finish(0, 0) = 0
        news: created 0, created 1, created 2, entered 2 by 0, left 2 by 0
        shutdown() = 0; news: destroyed 2, destroyed 1, destroyed 0
        """);
    Script.run("END, eight singletons", """
        component(2, 1, 0, 0) = 0; component(2, 1, 0, 0) = 1; component(2, 1, 0, 0) = 2
        component(2, 1, 0, 0) = 3; component(2, 1, 0, 0) = 4; component(2, 1, 0, 0) = 5
        component(2, 1, 0, 0) = 6; component(2, 1, 0, 0) = 7; start() = 8
        news: created 0, created 1, created 2, created 3, created 4, created 5, created 6,\
         created 7
        shutdown() = 0; news: destroyed 7, destroyed 6, destroyed 5, destroyed 4,\
         destroyed 3, destroyed 2, destroyed 1, destroyed 0
        """);
    Script.run("END, a full pool by ascending instance, however they came back", """
        component(0, 4, 0, 0) = 0; start() = 0; call(0, 0, 0) = 20; call(1, 0, 0) = 20
        call(2, 0, 0) = 20; call(3, 0, 0) = 20; finish(2, 0) = 0; finish(0, 0) = 0
        finish(3, 0) = 0; finish(1, 0) = 0; shutdown() = 0; instances(0) = 0
        event(3) = 2; event(2) = 258; event(1) = 514; event(0) = 770; events() = 16
        """);
    Script.run("END, with nothing in it", """
        start() = 0; shutdown() = 0; events() = 0; component(0, 1, 0, 0) = -1
        """);
    Script.run("promise 8, END when the last method ends, also a worker's", """
        component(0, 2, 0, 0) = 0; start() = 0; call(0, 0, 0) = 20; submit(0, 0, true) = 0
        call(0, 0, 0) = 11; shutdown() = 0; finish(0, 0) = 0; instances(0) = 2
        finish(6, 0) = 0; instances(0) = 0; task(0) = 20
        news: created 0, entered 0 by 0, created 1, entered 1 by 6, left 0 by 0, left 1 by 6,\
         destroyed 0, destroyed 1
        """);
  }

  private static void nothingAfterwards() {
    Script.run("END, what is asked afterwards", """
        component(0, 1, -1, 0) = 0; component(1, 1, -1, 0) = 1; component(2, 1, -1, 0) = 2
        start() = 1; create(1) = 0; call(0, 8, 0) = 20; finish(0, 0) = 0; call(0, 0, 0) = 20
        finish(0, 2) = 8; shutdown() = 0
        call(0, 0, 0) = -1; call(0, 8, 0) = -1; finish(0, 0) = -1; create(1) = -1
        submit(0, 0, true) = -1; tick(1) = -1; start() = -1; shutdown() = -1
        state(0) = 0; result(0) = 8; instance(0) = -1; waiting(0) = 0; waiting(8) = 0
        waiting(1) = -1; waiting(9) = -1; session(0) = 0; instances(0) = 0; instances(3) = -1
        events() = 10; event(0) = 2; event(1) = 258
        """);
  }
}
