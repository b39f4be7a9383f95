/** Promises 3, 5, 7 and 8 on singletons. */
public final class SingletonTest {
  public static void main(String[] args) {
    beginning();
    failing();
    locking();
    reentering();
    lines();
    Script.end();
  }

  private static void beginning() {
    Script.run("promise 7, a singleton begins when it is first called", """
        component(2, 0, 0, 0) = 0; start() = 0; instances(0) = 0
        call(0, 0, 0) = 20; news: created 0, entered 0 by 0; instances(0) = 1
        call(1, 0, 0) = 20; news: entered 0 by 1; instances(0) = 1; instance(1) = 0
        """);
    Script.run("begin, what is needed begins first, in the order in which that was said", """
        component(2, 0, 0, 0) = 0; component(2, 0, 0, 0) = 1; component(2, 0, 0, 0) = 2
        component(2, 0, 0, 0) = 3; depends(0, 2) = true; depends(0, 1) = true
        depends(1, 3) = true; start() = 0
        call(0, 0, 1) = 20
        news: created 0, created 1, created 2, created 3, entered 3 by 0
        call(0, 2, 1) = 20; instance(0) = 0; call(0, 3, 1) = 20; instance(0) = 1
        call(0, 1, 1) = 20; instance(0) = 2
        """);
    Script.run("begin, what has begun is not begun again", """
        component(2, 0, 0, 0) = 0; component(2, 0, 0, 0) = 1; component(2, 0, 0, 0) = 2
        depends(1, 0) = true; depends(2, 0) = true; depends(2, 1) = true; start() = 0
        call(0, 1, 0) = 20; news: created 0, created 1, entered 1 by 0
        call(0, 2, 0) = 20; news: created 2, entered 2 by 0
        """);
  }

  private static void failing() {
    Script.run("begin, one that cannot begin has failed", """
        component(2, 2, -1, 0) = 0; component(2, 3, 5, 0) = 1; start() = 0
        call(0, 0, 0) = 9; call(0, 0, 1) = 9; call(0, 1, 0) = 9; result(0) = 9
        instances(0) = 0; events() = 0; waiting(0) = 0; state(0) = 0
        """);
    Script.run("begin, what comes behind a failed one is not begun", """
        component(2, 0, 0, 0) = 0; component(2, 2, 0, 0) = 1; component(2, 0, 0, 0) = 2
        component(2, 0, 0, 0) = 3
        depends(0, 3) = true; depends(0, 1) = true; depends(0, 2) = true; start() = 0
        call(0, 0, 0) = 9; news: created 0; instances(0) = 0; instances(1) = 0
        instances(2) = 0; instances(3) = 1; call(0, 2, 0) = 20; call(0, 0, 0) = 9
        """);
    Script.run("begin, failing goes on to those that need it, also later", """
        component(2, 0, 0, 0) = 0; component(2, 0, 0, 0) = 1; component(2, 3, 0, 0) = 2
        component(2, 0, 0, 0) = 3
        depends(0, 1) = true; depends(1, 2) = true; depends(3, 0) = true; start() = 0
        call(0, 1, 0) = 9; call(0, 0, 0) = 9; call(0, 3, 0) = 9; events() = 0
        """);
    Script.run("begin, one that cannot begin still begins what it needs", """
        component(2, 3, 0, 0) = 0; component(2, 0, 0, 0) = 1; depends(0, 1) = true
        start() = 1; news: created 0; instances(1) = 1; instances(0) = 0
        """);
  }

  private static void locking() {
    Script.run("promise 7, many read or one writes", """
        component(2, 1, 0, 0) = 0; start() = 1
        call(0, 0, 0) = 20; call(1, 0, 0) = 20; call(2, 0, 1) = 11; finish(0, 0) = 0
        call(2, 0, 1) = 11; finish(1, 0) = 0; call(2, 0, 1) = 20
        call(0, 0, 0) = 11; call(0, 0, 1) = 11; finish(2, 0) = 0; call(0, 0, 0) = 20
        """);
    Script.run("promise 7, the modes of a singleton are 0 and 1", """
        component(2, 0, 0, 0) = 0; start() = 0; call(0, 0, 2) = -1; call(0, 0, -1) = -1
        call(0, 0, MIN) = -1; events() = 0; instances(0) = 0; call(0, 0, 1) = 20
        """);
    Script.run("promise 8, a singleton stays whatever the outcome", """
        component(2, 0, 0, 0) = 0; application(2, true) = true; start() = 0
        call(0, 0, 1) = 20; finish(0, 1) = 8; result(0) = 8; instances(0) = 1
        call(0, 0, 1) = 20; finish(0, 5) = 5; call(0, 0, 1) = 20; finish(0, 0) = 0
        news: created 0, entered 0 by 0, left 0 by 0, entered 0 by 0, left 0 by 0,\
         entered 0 by 0, left 0 by 0
        """);
  }

  private static void reentering() {
    Script.run("promise 7, a reader may read again and not write", """
        component(2, 0, -1, 0) = 0; start() = 0; call(0, 0, 0) = 20; call(0, 0, 0) = 20
        call(0, 0, 1) = 12; result(0) = 12; state(0) = 2; finish(0, 0) = 0
        call(0, 0, 1) = 12; finish(0, 0) = 0; call(0, 0, 1) = 20
        """);
    Script.run("promise 7, a writer may do both, also behind reading and other methods", """
        component(2, 0, -1, 0) = 0; component(0, 1, 0, 0) = 1; start() = 0
        call(0, 0, 1) = 20; call(0, 0, 0) = 20; call(0, 1, 0) = 20; call(0, 0, 1) = 20
        state(0) = 4; finish(0, 0) = 0; finish(0, 0) = 0; finish(0, 0) = 0
        call(1, 0, 0) = 21; call(0, 0, 1) = 20; finish(0, 0) = 0; state(1) = 8
        finish(0, 0) = 0; state(1) = 1
        """);
    Script.run("promise 7, the line does not stop who has a method in it", """
        component(2, 0, -1, 0) = 0; start() = 0; call(0, 0, 0) = 20; call(1, 0, 1) = 21
        call(0, 0, 0) = 20; state(0) = 2; call(2, 0, 0) = 21; waiting(0) = 2
        """);
    Script.run("promise 7, a writing method that has ended lends nothing to a reading one", """
        component(2, 0, -1, 0) = 0; component(0, 1, 0, 0) = 1; start() = 0
        call(0, 1, 0) = 20; call(0, 0, 1) = 20; finish(0, 0) = 0; finish(0, 0) = 0
        call(0, 0, 0) = 20; call(0, 0, 1) = 12
        """);
    Script.run("promise 7, a writer holds it until its last writing method ends", """
        component(2, 0, -1, 0) = 0; start() = 0; call(0, 0, 1) = 20; call(0, 0, 1) = 20
        call(1, 0, 0) = 21; finish(0, 0) = 0; state(1) = 8; finish(0, 0) = 0; state(1) = 1
        """);
  }

  private static void lines() {
    Script.run("promise 7, a reader waits behind a writer", """
        component(2, 0, -1, 0) = 0; start() = 0; call(0, 0, 0) = 20; call(1, 0, 1) = 21
        call(2, 0, 0) = 21; call(3, 0, 0) = 21; call(4, 0, 1) = 21; call(5, 0, 0) = 21
        waiting(0) = 5; finish(0, 0) = 0; state(1) = 1; waiting(0) = 4
        finish(1, 0) = 0; state(2) = 1; state(3) = 1; state(4) = 8; state(5) = 8
        waiting(0) = 2; finish(2, 0) = 0; state(4) = 8; finish(3, 0) = 0; state(4) = 1
        finish(4, 0) = 0; state(5) = 1; waiting(0) = 0
        """);
    Script.run("promise 7, a line with a timeout of 0 is never there", """
        component(2, 0, 0, 0) = 0; start() = 0; call(0, 0, 1) = 20; call(1, 0, 1) = 11
        call(1, 0, 0) = 11; waiting(0) = 0; finish(0, 0) = 0; call(1, 0, 1) = 20
        """);
  }
}
