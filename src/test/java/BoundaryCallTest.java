/** Boundary cases of a CALL, case by case, and of what it is TO BEGIN a singleton. */
public final class BoundaryCallTest {
  private static final String TERMS = "Terms";

  public static void main(String[] args) {
    firstCase();
    stateless();
    session();
    singletonWithoutOwnMethods();
    singletonWithOwnMethods();
    refusedForNow();
    enters();
    begin();
    beginUntilOneHasFailed();
    Script.end();
  }

  private static void firstCase() {
    Boundary.holds(TERMS, "(the first case that fits counts)", """
        component(1, 1, -1, 0) = 0; start() = 0; create(0) = 0; call(0, 8, 0) = 20
        call(1, 8, 0) = 21; call(0, 8, 0) = 12; waiting(8) = 1
        """, """
        component(1, 1, 0, 0) = 0; start() = 0; create(0) = 0; call(0, 8, 0) = 20
        call(0, 8, 0) = 12; call(1, 8, 0) = 11
        """, """
        component(2, 0, 0, 0) = 0; start() = 0; call(0, 0, 0) = 20; call(1, 0, 0) = 20
        call(0, 0, 1) = 12; call(2, 0, 1) = 11; call(0, 0, 0) = 20
        """);
  }

  private static void stateless() {
    Boundary.holds(TERMS, "the caller ENTERS if the line is empty and either some instance of the"
        + " pool is not in use, or the pool has fewer than size instances; else it is REFUSED FOR"
        + " NOW", """
        component(0, 2, -1, 0) = 0; start() = 0; call(0, 0, 0) = 20; instances(0) = 1
        call(1, 0, 0) = 20; instances(0) = 2; call(2, 0, 0) = 21; instances(0) = 2
        """, """
        component(0, 2, -1, 0) = 0; start() = 0; call(0, 0, 0) = 20; call(1, 0, 0) = 20
        finish(0, 0) = 0; call(2, 0, 0) = 20; instances(0) = 2; call(3, 0, 0) = 21
        """, """
        component(0, 2, -1, 0) = 0; start() = 0; call(0, 0, 0) = 20; call(1, 0, 0) = 20
        finish(0, 1) = 8; instances(0) = 1; call(2, 0, 0) = 20; instances(0) = 2
        call(3, 0, 0) = 21; call(4, 0, 0) = 21; waiting(0) = 2; finish(1, 0) = 0
        state(3) = 1; state(4) = 8; call(1, 0, 0) = 21; waiting(0) = 2
        """);
    Boundary.holds(TERMS, "It enters in the instance that is not in use and came back latest, or,"
        + " if all are in use, in a new one (event CREATED)", """
        component(0, 4, 0, 0) = 0; start() = 0; call(0, 0, 0) = 20; call(1, 0, 0) = 20
        call(2, 0, 0) = 20; finish(2, 0) = 0; finish(0, 0) = 0; call(3, 0, 0) = 20
        instance(3) = 0; call(4, 0, 0) = 20; instance(4) = 2; call(5, 0, 0) = 20
        instance(5) = 3; instances(0) = 4
        news: created 0, entered 0 by 0, created 1, entered 1 by 1, created 2, entered 2 by 2,\
         left 2 by 2, left 0 by 0, entered 0 by 3, entered 2 by 4, created 3, entered 3 by 5
        """, """
        component(0, 4, 0, 0) = 0; start() = 0; call(0, 0, 0) = 20; call(0, 0, 0) = 20
        call(0, 0, 0) = 20; call(0, 0, 0) = 20; finish(0, 0) = 0; finish(0, 0) = 0
        finish(0, 0) = 0; finish(0, 0) = 0; call(0, 0, 0) = 20; instance(0) = 0
        call(0, 0, 0) = 20; instance(0) = 1; call(0, 0, 0) = 20; instance(0) = 2
        call(0, 0, 0) = 20; instance(0) = 3
        """, """
        component(0, 4, 0, 0) = 0; start() = 0; call(0, 0, 0) = 20; call(1, 0, 0) = 20
        call(2, 0, 0) = 20; call(3, 0, 0) = 20; finish(0, 0) = 0; finish(3, 0) = 0
        finish(1, 0) = 0; finish(2, 0) = 0; call(3, 0, 0) = 20; instance(3) = 2
        call(2, 0, 0) = 20; instance(2) = 1; call(1, 0, 0) = 20; instance(1) = 3
        call(0, 0, 0) = 20; instance(0) = 0; instances(0) = 4
        """, """
        component(0, 2, 0, 0) = 0; start() = 0; call(0, 0, 0) = 20; call(1, 0, 0) = 20
        finish(0, 0) = 0; finish(1, 1) = 8; call(2, 0, 0) = 20; instance(2) = 0
        call(3, 0, 0) = 20; instance(3) = 2
        """);
  }

  private static void session() {
    Boundary.holds(TERMS, "session: if it is gone, the caller gets NOSUCH", """
        component(1, 1, -1, 0) = 0; start() = 0; create(0) = 0; call(0, 8, 1) = 20
        finish(0, 0) = 0; call(0, 8, 0) = 9; call(1, 8, 1) = 9; call(2, 8, 2) = 9
        waiting(8) = 0; state(0) = 0; result(2) = 9
        """, """
        component(1, 1, -1, 1) = 0; start() = 0; create(0) = 0; create(0) = 1; tick(1) = 200
        call(0, 8, 0) = 9; call(0, 9, 0) = 9
        """);
    Boundary.holds(TERMS, "If the caller has a method in it, the caller gets LOOPBACK", """
        component(1, 1, -1, 0) = 0; component(0, 2, 0, 0) = 1; start() = 0; create(0) = 0
        call(0, 8, 0) = 20; call(0, 8, 0) = 12; state(0) = 1; call(0, 1, 0) = 20
        call(0, 1, 0) = 20; call(0, 8, 1) = 12; state(0) = 3; waiting(8) = 0
        finish(0, 0) = 0; finish(0, 0) = 0; finish(0, 0) = 0; call(0, 8, 0) = 20
        """);
    Boundary.holds(TERMS, "If it is not in use, the caller enters (is it put away, it comes into"
        + " memory before that: event ACTIVATED)", """
        component(1, 1, -1, 0) = 0; start() = 0; create(0) = 0; create(0) = 1
        session(0) = 3; session(1) = 1; news: created 0, created 1, putaway 0
        call(0, 9, 0) = 20; news: entered 1 by 0; call(1, 8, 0) = 20
        news: activated 0, entered 0 by 1; session(0) = 2; session(1) = 2; instances(0) = 2
        """);
    Boundary.holds(TERMS, "Else REFUSED FOR NOW", """
        component(1, 1, 0, 0) = 0; component(1, 1, 1, 0) = 1; start() = 0; create(0) = 0
        create(1) = 1; call(0, 8, 0) = 20; call(0, 9, 0) = 20; call(1, 8, 0) = 11
        call(1, 9, 0) = 21; waiting(8) = 0; waiting(9) = 1; call(2, 9, 0) = 21; waiting(9) = 2
        """);
  }

  private static void singletonWithoutOwnMethods() {
    Boundary.holds(TERMS, "singleton: first it is BEGUN", """
        component(2, 0, 0, 0) = 0; start() = 0; instances(0) = 0; call(0, 0, 0) = 20
        instances(0) = 1; news: created 0, entered 0 by 0; finish(0, 0) = 0; call(1, 0, 1) = 20
        news: left 0 by 0, entered 0 by 1
        """);
    Boundary.holds(TERMS, "If it has failed, the caller gets NOSUCH", """
        component(2, 2, -1, 0) = 0; component(2, 0, -1, 0) = 1; depends(1, 0) = true
        start() = 0; call(0, 1, 0) = 9; call(0, 1, 1) = 9; call(0, 0, 1) = 9; state(0) = 0
        waiting(0) = 0; waiting(1) = 0; events() = 0
        """);
    Boundary.holds(TERMS, "If the caller has none in it: the caller enters if the line is empty,"
        + " no caller has a WRITING method in it, and the mode is READING or no caller has any"
        + " method in it; else REFUSED FOR NOW",
        singleton("call(0, 0, 0) = 20; call(1, 0, 0) = 20; call(2, 0, 0) = 20; waiting(0) = 0"),
        singleton("call(0, 0, 1) = 20; call(1, 0, 0) = 21; call(2, 0, 1) = 21; waiting(0) = 2"),
        singleton("call(0, 0, 0) = 20; call(1, 0, 1) = 21; call(2, 0, 0) = 21; waiting(0) = 2"),
        singleton("""
        call(0, 0, 0) = 20; call(1, 0, 0) = 20; finish(0, 0) = 0; call(0, 0, 1) = 21
        finish(1, 0) = 0; state(0) = 1; waiting(0) = 0; finish(0, 0) = 0; call(1, 0, 1) = 20
        """),
        singleton("""
        call(0, 0, 1) = 20; call(0, 0, 0) = 20; call(1, 0, 0) = 21; finish(0, 0) = 0
        state(1) = 8; finish(0, 0) = 0; state(1) = 1
        """),
        singleton("""
        call(0, 1, 1) = 20; call(0, 0, 1) = 20; finish(0, 0) = 0; call(1, 0, 1) = 20
        call(2, 1, 0) = 21
        """));
  }

  private static void singletonWithOwnMethods() {
    Boundary.holds(TERMS, "If the caller has methods in it: the caller enters if the mode is"
        + " READING or one of those methods is WRITING, else it gets LOOPBACK",
        singleton("call(0, 0, 0) = 20; call(0, 0, 1) = 12; call(0, 0, 0) = 20; state(0) = 2"),
        singleton("call(0, 0, 1) = 20; call(0, 0, 0) = 20; call(0, 0, 1) = 20; state(0) = 3"),
        singleton("""
        call(0, 0, 1) = 20; call(0, 1, 0) = 20; call(0, 1, 1) = 12; call(0, 0, 1) = 20
        state(0) = 3; finish(0, 0) = 0; finish(0, 0) = 0; finish(0, 0) = 0
        call(0, 0, 0) = 20; call(0, 0, 1) = 12
        """),
        singleton("""
        call(0, 0, 0) = 20; call(1, 0, 0) = 20; call(2, 0, 1) = 21; call(0, 0, 0) = 20
        call(0, 0, 1) = 12; state(0) = 2; call(3, 0, 0) = 21; waiting(0) = 2
        """),
        singleton("""
        call(0, 1, 0) = 20; call(0, 0, 1) = 20; finish(0, 0) = 0; finish(0, 0) = 0
        call(0, 0, 0) = 20; call(0, 0, 1) = 12
        """),
        singleton("""
        call(0, 1, 1) = 20; call(0, 0, 0) = 20; call(0, 0, 1) = 12; call(0, 1, 1) = 20
        finish(0, 0) = 0; finish(0, 0) = 0; call(0, 0, 1) = 20; finish(0, 0) = 0
        finish(0, 0) = 0; call(0, 1, 0) = 20; call(0, 1, 1) = 12
        """));
  }

  private static String singleton(String rows) {
    return "component(2, 0, -1, 0) = 0; component(2, 0, -1, 0) = 1; start() = 0\n" + rows;
  }

  private static void refusedForNow() {
    String sentence = "the caller gets BUSY if the timeout is 0; else it waits, as the last in the"
        + " line";
    for (String timeout : new String[] {"-1", "0", "1", "100"}) {
      String answer = timeout.equals("0") ? "11" : "21";
      String waiting = timeout.equals("0") ? "0" : "1";
      String state = "; state(1) = " + (timeout.equals("0") ? "0" : "8") + "\n";
      Boundary.holds(TERMS, sentence,
          "component(0, 1, " + timeout + ", 0) = 0; start() = 0; call(0, 0, 0) = 20\n"
              + "call(1, 0, 0) = " + answer + "; waiting(0) = " + waiting + state,
          "component(2, 1, " + timeout + ", 0) = 0; start() = 1; call(0, 0, 1) = 20\n"
              + "call(1, 0, 0) = " + answer + "; waiting(0) = " + waiting + state,
          "component(1, 1, " + timeout + ", 0) = 0; start() = 0; create(0) = 0\n"
              + "call(0, 8, 0) = 20; call(1, 8, 0) = " + answer + "\n"
              + "waiting(8) = " + waiting + state);
    }
    Boundary.holds(TERMS, sentence, """
        component(0, 1, 5, 0) = 0; start() = 0; call(3, 0, 0) = 20; call(2, 0, 0) = 21
        call(5, 0, 0) = 21; call(1, 0, 0) = 21; submit(0, 0, true) = 0; waiting(0) = 4
        finish(3, 0) = 0; state(2) = 1; finish(2, 0) = 0; state(5) = 1; finish(5, 0) = 0
        state(1) = 1; finish(1, 0) = 0; state(6) = 1; waiting(0) = 0
        """);
    Boundary.holds(TERMS, "(The timeout of a session is that of its component.)", """
        component(1, 2, 2, 0) = 0; component(1, 2, 0, 0) = 1; component(1, 2, -1, 0) = 2
        start() = 0; create(2) = 0; create(1) = 1; create(0) = 2; call(0, 8, 0) = 20
        call(0, 9, 0) = 20; call(0, 10, 0) = 20; call(1, 9, 0) = 11; call(1, 8, 0) = 21
        call(2, 10, 0) = 21; tick(1) = 0; tick(1) = 1; result(2) = 10; tick(50) = 0
        state(1) = 8
        """);
  }

  private static void enters() {
    Boundary.holds(TERMS, "ENTERS: a method with that target, instance and mode becomes the latest"
        + " of the caller: event ENTERED", """
        component(0, 1, 0, 0) = 0; component(1, 1, 0, 0) = 1; component(2, 0, 0, 0) = 2
        start() = 0; create(1) = 0; call(5, 0, 0) = 20; instance(5) = 1; call(5, 8, 1) = 20
        instance(5) = 0; call(5, 2, 1) = 20; instance(5) = 2; state(5) = 3
        news: created 0, created 1, entered 1 by 5, entered 0 by 5, created 2, entered 2 by 5
        call(4, 2, 0) = 11; finish(5, 0) = 0; call(4, 2, 0) = 20; finish(5, 0) = 0
        session(0) = 0; state(5) = 1; instance(5) = 1
        """);
  }

  private static void begin() {
    Boundary.holds(TERMS, "To BEGIN a singleton: nothing is done if it has begun or has failed", """
        component(2, 1, 0, 0) = 0; component(2, 0, 0, 0) = 1; component(2, 0, 0, 0) = 2
        depends(1, 0) = true; depends(2, 1) = true; depends(2, 0) = true; start() = 1
        news: created 0; call(0, 0, 0) = 20; call(0, 1, 0) = 20; call(0, 2, 0) = 20
        news: entered 0 by 0, created 1, entered 1 by 0, created 2, entered 2 by 0
        """, """
        component(2, 0, 0, 0) = 0; component(2, 2, 0, 0) = 1; component(2, 0, 0, 0) = 2
        depends(0, 1) = true; depends(0, 2) = true; start() = 0; call(0, 0, 0) = 9
        call(0, 0, 0) = 9; call(0, 1, 0) = 9; instances(2) = 0; call(0, 2, 0) = 20
        call(1, 0, 0) = 9; news: created 0, entered 0 by 0
        """);
    Boundary.holds(TERMS, "Else the singletons on which it depends are begun first, one after the"
        + " other, in the order in which that was said", """
        component(2, 1, 0, 0) = 0; component(2, 0, 0, 0) = 1; component(2, 0, 0, 0) = 2
        component(2, 0, 0, 0) = 3; depends(0, 3) = true; depends(0, 1) = true
        depends(0, 2) = true; start() = 4; call(0, 3, 0) = 20; instance(0) = 0
        call(0, 1, 0) = 20; instance(0) = 1; call(0, 2, 0) = 20; instance(0) = 2
        call(0, 0, 0) = 20; instance(0) = 3
        """, eightInAChain(0) + """
        start() = 0; call(0, 0, 0) = 20; instance(0) = 7; call(1, 7, 0) = 20; instance(1) = 0
        instances(4) = 1; events() = 10
        """, eightInAChain(1) + "start() = 8; call(0, 0, 0) = 20; instance(0) = 7; events() = 9");
    Boundary.holds(TERMS, "If none has, and it cannot begin, it has failed", """
        component(2, 2, 0, 0) = 0; component(2, 0, 0, 0) = 1; component(2, 0, 0, 0) = 2
        depends(0, 1) = true; depends(0, 2) = true; start() = 0; call(0, 0, 0) = 9
        instances(0) = 0; instances(1) = 1; instances(2) = 1; news: created 0, created 1
        """);
    Boundary.holds(TERMS, "Else it has begun, with a new instance: event CREATED",
        "component(2, 0, 0, 0) = 0; start() = 0; call(0, 0, 0) = 20\n"
            + "news: created 0, entered 0 by 0",
        "component(2, 1, 0, 0) = 0; start() = 1; news: created 0\n"
            + "call(0, 0, 0) = 20; instance(0) = 0; news: entered 0 by 0");
  }

  /** Eight singletons, each of which depends on the next; the first is of the size that is told. */
  private static String eightInAChain(int size) {
    StringBuilder rows = new StringBuilder("component(2, " + size + ", 0, 0) = 0\n");
    for (int c = 1; c < 8; c++) {
      rows.append("component(2, 0, 0, 0) = " + c + "\n");
      rows.append("depends(" + (c - 1) + ", " + c + ") = true\n");
    }
    return rows.toString();
  }

  private static void beginUntilOneHasFailed() {
    String sentence = "until one of them has failed (now or earlier): then it has failed itself,"
        + " and the others are not begun by it";
    Boundary.holds(TERMS, sentence,
        needsThree(0, 0, 0) + "call(0, 0, 0) = 20; instance(0) = 3",
        needsThree(2, 0, 0) + "call(0, 0, 0) = 9; events() = 0; instances(2) = 0",
        needsThree(0, 2, 0) + "call(0, 0, 0) = 9; events() = 1; instances(1) = 1",
        needsThree(0, 0, 2) + "call(0, 0, 0) = 9; events() = 2; instances(2) = 1",
        needsThree(2, 0, 0) + "call(0, 1, 0) = 9; call(0, 0, 0) = 9; events() = 0",
        needsThree(0, 2, 0) + "call(0, 2, 0) = 9; call(0, 0, 0) = 9; events() = 1",
        needsThree(2, 0, 0) + "call(0, 3, 0) = 20; call(1, 0, 0) = 9; events() = 2");
    Boundary.holds(TERMS, sentence, """
        component(2, 0, 0, 0) = 0; component(2, 0, 0, 0) = 1; component(2, 2, 0, 0) = 2
        depends(0, 1) = true; depends(1, 2) = true; start() = 0; call(0, 0, 0) = 9
        call(0, 1, 0) = 9; call(0, 2, 0) = 9; events() = 0
        """);
  }

  /** Singleton 0 depends on 1, 2 and 3, which are of the sizes that are told. */
  private static String needsThree(int first, int second, int third) {
    return "component(2, 0, 0, 0) = 0; component(2, " + first + ", 0, 0) = 1\n"
        + "component(2, " + second + ", 0, 0) = 2; component(2, " + third + ", 0, 0) = 3\n"
        + "depends(0, 1) = true; depends(0, 2) = true; depends(0, 3) = true; start() = 0\n";
  }
}
