/** Boundary cases of promises 1 to 5: a new object, component, depends, application and start. */
public final class BoundaryFurnishingTest {
  public static void main(String[] args) {
    newObject();
    componentKindAndSize();
    componentTimeoutAndIdle();
    componentRefused();
    dependsNumbers();
    dependsAlready();
    dependsInARing();
    application();
    start();
    Script.end();
  }

  private static void newObject() {
    String empty = "events() = 0; cancel(0) = 0\n" + Boundary.counted(0, 63, "event(?) = -1")
        + Boundary.counted(0, 23, "session(?) = 0; task(?) = 0")
        + Boundary.counted(0, 31, "waiting(?) = -1")
        + Boundary.counted(0, 7, "instances(?) = -1");
    Boundary.holds("Promise 1", "FURNISHED, nothing in it, the clock at 0",
        empty + "component(0, 1, 0, 0) = 0; start() = 0; start() = -1",
        "component(1, 1, 0, 1) = 0; start() = 0; create(0) = 0; tick(0) = 0; tick(1) = 100");
    Boundary.holds("Promise 1", "no caller has a method or waits", Boundary.counted(0, 7,
        "state(?) = 0; result(?) = -1; instance(?) = -1; finish(?, 0) = -1"));
    Boundary.holds("Promise 1", "no exception type is marked",
        "component(2, 0, 0, 0) = 0; start() = 0\n"
            + Boundary.counted(1, 7, "call(0, 0, 0) = 20; finish(0, ?) = 8"),
        Boundary.counted(1, 7, "application(?, false) = true"));
  }

  private static void refusedOutside(String sentence, String call, int low, int high) {
    Boundary.range("Promise 2", sentence, "", call, new Boundary.Range(low, high, "0", "-1"));
  }

  private static void componentKindAndSize() {
    refusedOutside("kind is not 0 .. 2", "component(?, 1, 0, 0)", 0, 2);
    refusedOutside("kind is not 0 .. 2", "component(?, 2, -1, 0)", 0, 2);
    refusedOutside("size is not 1 .. 4 (kinds 0 and 1)", "component(0, ?, 0, 0)", 1, 4);
    refusedOutside("size is not 1 .. 4 (kinds 0 and 1)", "component(1, ?, 0, 0)", 1, 4);
    refusedOutside("or not 0 .. 3 (kind 2)", "component(2, ?, 0, 0)", 0, 3);
  }

  private static void componentTimeoutAndIdle() {
    for (int kind = 0; kind <= 2; kind++) {
      refusedOutside("timeout is not -1 .. 100", "component(" + kind + ", 1, ?, 0)", -1, 100);
    }
    Boundary.holds("Promise 2", "(-1: waits without end)", """
        component(2, 0, -1, 0) = 0; component(2, 0, 100, 0) = 1; start() = 0
        call(0, 0, 1) = 20; call(0, 1, 1) = 20; call(1, 0, 0) = 21; call(2, 1, 0) = 21
        tick(50) = 0; tick(49) = 0; state(2) = 8; tick(1) = 1; state(2) = 0; state(1) = 8
        """ + "tick(50) = 0\n".repeat(100) + "state(1) = 8; finish(0, 0) = 0; finish(0, 0) = 0\n"
            + "state(1) = 1; result(1) = -1");
    refusedOutside("idle is not 0 .. 100 (kind 1; 0: no limit)", "component(1, 1, 0, ?)", 0, 100);
    Boundary.holds("Promise 2", "idle is not 0 .. 100 (kind 1; 0: no limit)", """
        component(1, 4, 0, 0) = 0; component(1, 4, 0, 100) = 1; component(1, 4, 0, 1) = 2
        start() = 0; create(0) = 0; create(1) = 1; create(2) = 2; tick(1) = 100; session(2) = 0
        tick(50) = 0; tick(48) = 0; session(1) = 1; tick(1) = 100; session(1) = 0
        """ + "tick(50) = 0\n".repeat(100) + "session(0) = 1");
    refusedOutside("or not 0 (kinds 0 and 2)", "component(0, 1, 0, ?)", 0, 0);
    refusedOutside("or not 0 (kinds 0 and 2)", "component(2, 1, 0, ?)", 0, 0);
  }

  private static void componentRefused() {
    Boundary.holds("Promise 2", "Adds a component and answers its number",
        "component(0, 1, 0, 0) = 0; instances(0) = 0; instances(1) = -1\n"
            + "component(0, 1, 0, 1) = -1; instances(1) = -1\n"
            + "component(2, 1, 0, 0) = 1; instances(1) = 0; instances(2) = -1");
    String sentence = "-1 if the container is not FURNISHED, 8 are there";
    Boundary.holds("Promise 2", sentence,
        "component(0, 1, 0, 0) = 0; start() = 0; component(0, 1, 0, 0) = -1; instances(1) = -1",
        """
        component(2, 1, 0, 0) = 0; start() = 1; call(0, 0, 0) = 20; shutdown() = 0
        component(2, 1, 0, 0) = -1; finish(0, 0) = 0; component(2, 1, 0, 0) = -1
        instances(0) = 0; instances(1) = -1
        """,
        """
        component(0, 1, 0, 0) = 0; component(1, 1, 0, 0) = 1; component(2, 1, 0, 0) = 2
        component(0, 1, 0, 0) = 3; component(1, 1, 0, 0) = 4; component(2, 1, 0, 0) = 5
        component(0, 1, 0, 0) = 6; component(1, 1, 0, 0) = 7; component(0, 1, 0, 0) = -1
        component(1, 1, 0, 0) = -1; component(2, 1, 0, 0) = -1; instances(7) = 0
        instances(8) = -1; start() = 2
        """);
  }

  private static String singletons(int count) {
    return Boundary.counted(0, count - 1, "component(2, 0, 0, 0) = ?");
  }

  private static void dependsNumbers() {
    String sentence = "one of them is no singleton's number";
    Boundary.Range eight = new Boundary.Range(0, 7, "true", "false");
    Boundary.range("Promise 3", sentence, singletons(8), "depends(?, 3)", eight);
    Boundary.range("Promise 3", sentence, singletons(8), "depends(3, ?)", eight);
    Boundary.Range two = new Boundary.Range(1, 1, "true", "false");
    Boundary.range("Promise 3", sentence, singletons(2), "depends(0, ?)", two);
    Boundary.range("Promise 3", sentence, singletons(2), "depends(?, 0)", two);
    String mixed = "component(0, 1, 0, 0) = 0; component(2, 0, 0, 0) = 1\n"
        + "component(2, 0, 0, 0) = 2; component(1, 1, 0, 0) = 3\n";
    Boundary.Range inside = new Boundary.Range(2, 2, "true", "false");
    Boundary.range("Promise 3", sentence, mixed, "depends(1, ?)", inside);
    Boundary.range("Promise 3", sentence, mixed, "depends(?, 1)", inside);
    Boundary.holds("Promise 3", sentence, mixed + "depends(1, 0) = false; depends(0, 1) = false\n"
        + "depends(0, 3) = false; depends(3, 0) = false; depends(1, 8) = false\n"
        + "depends(8, 1) = false; depends(1, 2) = true");
  }

  private static void dependsAlready() {
    Boundary.holds("Promise 3", "Singleton a depends on singleton b from now on", """
        component(2, 1, 0, 0) = 0; component(2, 0, 0, 0) = 1; component(2, 0, 0, 0) = 2
        depends(0, 2) = true; start() = 2; instances(1) = 0; instances(2) = 1
        """);
    Boundary.holds("Promise 3", "false if the container is not FURNISHED",
        singletons(2) + "start() = 0; depends(0, 1) = false; call(0, 0, 0) = 20; instances(1) = 0",
        singletons(2) + "start() = 0; call(0, 0, 0) = 20; shutdown() = 0; depends(0, 1) = false",
        singletons(2) + "start() = 0; shutdown() = 0; depends(0, 1) = false");
    Boundary.holds("Promise 3", "a depends on b directly already (by way of others is no"
        + " hindrance)",
        singletons(3) + "depends(0, 1) = true; depends(0, 1) = false; depends(0, 2) = true",
        singletons(3) + "depends(0, 1) = true; depends(1, 2) = true; depends(0, 2) = true\n"
            + "depends(0, 2) = false; depends(0, 1) = false; depends(1, 2) = false",
        singletons(4) + "depends(0, 3) = true; depends(0, 2) = true; depends(0, 1) = true\n"
            + "depends(0, 3) = false; depends(0, 2) = false; depends(0, 1) = false");
  }

  private static void dependsInARing() {
    String sentence = "or b is a or depends on a directly or by way of others";
    Boundary.holds("Promise 3", sentence,
        singletons(2) + "depends(0, 0) = false; depends(1, 1) = false; depends(0, 1) = true",
        singletons(2) + "depends(0, 1) = true; depends(1, 0) = false; depends(1, 1) = false",
        singletons(3) + "depends(0, 1) = true; depends(1, 2) = true; depends(2, 0) = false",
        singletons(4) + "depends(2, 1) = true; depends(2, 3) = true; depends(3, 0) = true\n"
            + "depends(0, 2) = false; depends(0, 1) = true; depends(1, 2) = false");
    StringBuilder chain = new StringBuilder(singletons(8));
    for (int c = 0; c < 7; c++) {
      chain.append("depends(" + c + ", " + (c + 1) + ") = true\n");
    }
    for (int c = 0; c < 8; c++) {
      Boundary.holds("Promise 3", sentence, chain + "depends(7, " + c + ") = false\n");
    }
    Boundary.holds("Promise 3", sentence, chain + "depends(0, 7) = true; depends(7, 0) = false");
  }

  private static void application() {
    Boundary.range("Promise 4", "e is not 1 .. 7 or is marked already", "",
        "application(?, false)", new Boundary.Range(1, 7, "true", "false"));
    String twice = Boundary.counted(1, 7,
        "application(?, true) = true; application(?, true) = false; application(?, false) = false");
    String ends = "component(2, 0, 0, 0) = 0; start() = 0; call(0, 0, 0) = 20; finish(0, 2) = ";
    Boundary.holds("Promise 4", "e is not 1 .. 7 or is marked already", twice,
        "application(1, false) = true; application(1, true) = false; " + ends + "8",
        "application(1, true) = true; application(1, false) = false; " + ends + "2");
    Boundary.holds("Promise 4", "Marks exception type e (whatever its parents are)", """
        application(1, true) = true; application(2, true) = true; application(4, false) = true
        application(3, false) = true; application(7, true) = true; application(6, false) = true
        application(5, true) = true
        """, """
        application(7, false) = true; application(3, true) = true; application(1, false) = true
        """);
    Boundary.holds("Promise 4", "false if the container is not FURNISHED",
        "start() = 0; application(1, true) = false",
        "component(2, 0, 0, 0) = 0; start() = 0; call(0, 0, 0) = 20; application(2, true) = false\n"
            + "finish(0, 2) = 8; call(0, 0, 0) = 20; shutdown() = 0; application(2, true) = false\n"
            + "finish(0, 2) = 8; application(2, true) = false");
  }

  private static void start() {
    Boundary.holds("Promise 5", "The container is RUNNING",
        "component(1, 1, 0, 0) = 0; create(0) = -1; tick(0) = -1\n"
            + "start() = 0; create(0) = 0; tick(0) = 0");
    Boundary.holds("Promise 5", "the eager singletons are begun by ascending number", """
        component(2, 1, 0, 0) = 0; component(2, 0, 0, 0) = 1; component(2, 1, 0, 0) = 2
        component(0, 1, 0, 0) = 3; component(1, 1, 0, 0) = 4; component(2, 0, 0, 0) = 5
        component(2, 2, 0, 0) = 6; component(2, 1, 0, 0) = 7; start() = 3; events() = 3
        call(0, 0, 0) = 20; instance(0) = 0; call(0, 2, 0) = 20; instance(0) = 1
        call(0, 7, 0) = 20; instance(0) = 2; instances(1) = 0; instances(5) = 0
        """, """
        component(2, 1, 0, 0) = 0; component(2, 1, 0, 0) = 1; component(2, 1, 0, 0) = 2
        depends(0, 2) = true; start() = 3; call(0, 2, 0) = 20; instance(0) = 0
        call(0, 0, 0) = 20; instance(0) = 1; call(0, 1, 0) = 20; instance(0) = 2
        """);
    Boundary.holds("Promise 5", "Answers how many singletons (eager or not; not those that failed)"
        + " have begun", "start() = 0", singletons(8) + "start() = 0",
        singletons(8).replace("(2, 0,", "(2, 1,") + "start() = 8; events() = 8",
        singletons(8).replace("(2, 0,", "(2, 3,") + "start() = 0; events() = 0", """
        component(2, 1, 0, 0) = 0; component(2, 0, 0, 0) = 1; component(2, 3, 0, 0) = 2
        component(2, 0, 0, 0) = 3; component(2, 0, 0, 0) = 4; depends(0, 1) = true
        depends(2, 3) = true; start() = 3; instances(2) = 0; instances(4) = 0
        """);
    Boundary.holds("Promise 5", "-1 if the container is not FURNISHED",
        "component(2, 1, 0, 0) = 0; start() = 1; start() = -1; call(0, 0, 0) = 20; shutdown() = 0\n"
            + "start() = -1; finish(0, 0) = 0; start() = -1; instances(0) = 0",
        "start() = 0; shutdown() = 0; start() = -1; shutdown() = -1");
  }
}
