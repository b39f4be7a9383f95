/** Promises 1 to 5: a new object, component, depends, application and start. */
public final class FurnishingTest {
  public static void main(String[] args) {
    newObject();
    component();
    depends();
    application();
    start();
    afterStart();
    Script.end();
  }

  private static void newObject() {
    Script.run("promise 1, nothing is in a new object", """
        events() = 0; event(0) = -1; instances(0) = -1; waiting(0) = -1; waiting(8) = -1
        state(0) = 0; state(7) = 0; result(0) = -1; result(7) = -1; instance(0) = -1
        session(0) = 0; task(0) = 0; cancel(0) = 0
        """);
    Script.run("promise 1, a new object is furnished and not running", """
        create(0) = -1; call(0, 0, 0) = -1; finish(0, 0) = -1; tick(0) = -1; tick(1) = -1
        submit(0, 0, true) = -1; shutdown() = -1
        component(0, 1, 0, 0) = 0; start() = 0
        """);
    Script.run("promise 1, not running with components in it either", """
        component(0, 1, 0, 0) = 0; component(1, 1, 0, 0) = 1; component(2, 1, 0, 0) = 2
        create(1) = -1; call(0, 0, 0) = -1; call(0, 2, 0) = -1; submit(0, 0, true) = -1
        tick(1) = -1; shutdown() = -1; events() = 0; waiting(0) = 0; instances(2) = 0
        """);
    Script.run("promise 1, no exception type is marked", """
        component(0, 1, 0, 0) = 0; start() = 0
        call(0, 0, 0) = 20; finish(0, 1) = 8; call(0, 0, 0) = 20; finish(0, 2) = 8
        call(0, 0, 0) = 20; finish(0, 3) = 8; call(0, 0, 0) = 20; finish(0, 7) = 8
        """);
    Script.run("promise 1, the clock is at 0", """
        component(1, 1, 0, 1) = 0; start() = 0; create(0) = 0; tick(1) = 100
        """);
  }

  private static void component() {
    Script.run("promise 2, components are numbered from 0, at most 8", """
        component(0, 1, 0, 0) = 0; component(1, 1, 0, 0) = 1; component(2, 0, 0, 0) = 2
        component(0, 4, -1, 0) = 3; component(1, 4, 100, 100) = 4; component(2, 3, 100, 0) = 5
        component(1, 2, 50, 50) = 6; component(2, 1, 7, 0) = 7
        component(0, 1, 0, 0) = -1; component(1, 1, 0, 0) = -1; component(2, 1, 0, 0) = -1
        instances(7) = 0; instances(8) = -1
        """);
    Script.run("promise 2, the kind", """
        component(-1, 1, 0, 0) = -1; component(3, 1, 0, 0) = -1; component(MIN, 1, 0, 0) = -1
        component(MAX, 1, 0, 0) = -1; instances(0) = -1
        """);
    Script.run("promise 2, the size", """
        component(0, 0, 0, 0) = -1; component(0, 5, 0, 0) = -1; component(0, -1, 0, 0) = -1
        component(1, 0, 0, 0) = -1; component(1, 5, 0, 0) = -1; component(1, MIN, 0, 0) = -1
        component(2, -1, 0, 0) = -1; component(2, 4, 0, 0) = -1; component(2, MAX, 0, 0) = -1
        component(0, 1, 0, 0) = 0; component(0, 4, 0, 0) = 1; component(1, 1, 0, 0) = 2
        component(1, 4, 0, 0) = 3; component(2, 0, 0, 0) = 4; component(2, 3, 0, 0) = 5
        """);
    Script.run("promise 2, the timeout", """
        component(0, 1, -2, 0) = -1; component(0, 1, 101, 0) = -1; component(1, 1, MIN, 0) = -1
        component(1, 1, 101, 0) = -1; component(2, 1, -2, 0) = -1; component(2, 1, MAX, 0) = -1
        component(0, 1, -1, 0) = 0; component(1, 1, 100, 0) = 1; component(2, 1, 0, 0) = 2
        """);
    Script.run("promise 2, the idle limit", """
        component(1, 1, 0, -1) = -1; component(1, 1, 0, 101) = -1; component(1, 1, 0, MIN) = -1
        component(0, 1, 0, 1) = -1; component(0, 1, 0, -1) = -1; component(0, 1, 0, 100) = -1
        component(2, 1, 0, 1) = -1; component(2, 1, 0, -1) = -1; component(2, 1, 0, MAX) = -1
        component(1, 1, 0, 0) = 0; component(1, 1, 0, 1) = 1; component(1, 1, 0, 100) = 2
        """);
  }

  private static void depends() {
    Script.run("promise 3, only singletons depend on one another", """
        component(2, 0, 0, 0) = 0; component(0, 1, 0, 0) = 1; component(1, 1, 0, 0) = 2
        component(2, 0, 0, 0) = 3
        depends(0, 1) = false; depends(1, 0) = false; depends(0, 2) = false
        depends(2, 0) = false; depends(0, 4) = false; depends(4, 0) = false
        depends(0, -1) = false; depends(-1, 0) = false; depends(MIN, MAX) = false
        depends(0, 8) = false; depends(0, 3) = true
        """);
    Script.run("promise 3, not on itself, not twice, not in a ring", """
        component(2, 0, 0, 0) = 0; component(2, 0, 0, 0) = 1; component(2, 0, 0, 0) = 2
        component(2, 0, 0, 0) = 3
        depends(0, 0) = false; depends(0, 1) = true; depends(0, 1) = false
        depends(1, 0) = false; depends(1, 2) = true; depends(2, 0) = false
        depends(2, 1) = false; depends(0, 2) = true; depends(0, 2) = false
        depends(2, 3) = true; depends(3, 0) = false; depends(3, 1) = false
        depends(1, 3) = true; depends(0, 3) = true
        """);
    Script.run("promise 3, the longest chain closes no ring", """
        component(2, 0, 0, 0) = 0; component(2, 0, 0, 0) = 1; component(2, 0, 0, 0) = 2
        component(2, 0, 0, 0) = 3; component(2, 0, 0, 0) = 4; component(2, 0, 0, 0) = 5
        component(2, 0, 0, 0) = 6; component(2, 0, 0, 0) = 7
        depends(0, 1) = true; depends(1, 2) = true; depends(2, 3) = true; depends(3, 4) = true
        depends(4, 5) = true; depends(5, 6) = true; depends(6, 7) = true
        depends(7, 0) = false; depends(7, 6) = false; depends(0, 7) = true
        start() = 0; call(0, 0, 0) = 20
        news: created 0, created 1, created 2, created 3, created 4, created 5, created 6,\
         created 7, entered 7 by 0
        """);
    Script.run("promise 3, a refused dependence is none", """
        component(2, 0, 0, 0) = 0; component(2, 2, 0, 0) = 1; depends(1, 0) = true
        depends(0, 1) = false; start() = 0; call(0, 0, 0) = 20
        """);
  }

  private static void application() {
    Script.run("promise 4, types are 1 to 7 and marked once", """
        application(0, true) = false; application(8, true) = false
        application(-1, false) = false; application(MIN, true) = false
        application(MAX, false) = false
        application(1, true) = true; application(1, true) = false
        application(1, false) = false; application(2, false) = true
        application(2, true) = false; application(3, true) = true; application(4, true) = true
        application(5, true) = true; application(6, true) = true; application(7, false) = true
        application(7, false) = false
        """);
    Script.run("promise 4, a second mark does not change the first", """
        component(0, 1, 0, 0) = 0; application(1, false) = true; application(1, true) = false
        start() = 0; call(0, 0, 0) = 20; finish(0, 2) = 8
        call(0, 0, 0) = 20; finish(0, 1) = 1
        """);
  }

  private static void start() {
    Script.run("promise 5, the eager singletons begin by ascending number", """
        component(2, 1, 0, 0) = 0; component(0, 1, 0, 0) = 1; component(2, 0, 0, 0) = 2
        component(2, 1, 0, 0) = 3; component(2, 3, 0, 0) = 4; component(2, 2, 0, 0) = 5
        start() = 2; news: created 0, created 1
        instances(0) = 1; instances(2) = 0; instances(3) = 1; instances(4) = 0
        instances(5) = 0; call(0, 0, 0) = 20; call(1, 3, 0) = 20
        news: entered 0 by 0, entered 1 by 1
        """);
    Script.run("promise 5, those that are needed count too", """
        component(2, 1, 0, 0) = 0; component(2, 0, 0, 0) = 1; component(2, 0, 0, 0) = 2
        component(2, 0, 0, 0) = 3; depends(0, 2) = true; depends(0, 1) = true
        start() = 3; news: created 0, created 1, created 2
        instances(0) = 1; instances(1) = 1; instances(2) = 1; instances(3) = 0
        call(0, 2, 0) = 20; call(0, 1, 0) = 20; call(0, 0, 0) = 20
        news: entered 0 by 0, entered 1 by 0, entered 2 by 0
        """);
    Script.run("promise 5, an eager one that failed before is not begun again", """
        component(2, 1, 0, 0) = 0; component(2, 3, 0, 0) = 1; component(2, 0, 0, 0) = 2
        depends(0, 2) = true; depends(0, 1) = true; start() = 1
        news: created 0
        instances(0) = 0; instances(1) = 0; instances(2) = 1; call(0, 0, 0) = 9
        """);
    Script.run("promise 5, started once", """
        start() = 0; start() = -1; shutdown() = 0; start() = -1
        """);
  }

  private static void afterStart() {
    Script.run("promises 2 to 5, nothing is furnished once started", """
        component(2, 0, 0, 0) = 0; component(2, 0, 0, 0) = 1; component(0, 1, 0, 0) = 2
        start() = 0
        component(0, 1, 0, 0) = -1; depends(0, 1) = false; application(1, true) = false
        start() = -1; instances(3) = -1
        call(0, 0, 0) = 20; instances(1) = 0; call(1, 2, 0) = 20; finish(1, 1) = 8
        shutdown() = 0
        component(0, 1, 0, 0) = -1; depends(0, 1) = false; application(1, true) = false
        start() = -1; finish(0, 0) = 0
        component(0, 1, 0, 0) = -1; depends(0, 1) = false; application(1, true) = false
        start() = -1
        """);
  }
}
