/** Boundary cases of 'What it is' and of 'Terms', from PHASES to EXCEPTION TYPES. */
public final class BoundaryTermsTest {
  private static final String TERMS = "Terms";

  public static void main(String[] args) {
    lifetime();
    phases();
    components();
    kinds();
    instancesAndSessions();
    targets();
    modes();
    callers();
    stacks();
    results();
    exceptionTypes();
    Script.end();
  }

  private static void lifetime() {
    Boundary.holds("What it is", "An object is used for at most 512 calls after it has been made",
        "component(0, 1, 0, 0) = 0; start() = 0\n"
            + "call(0, 0, 0) = 20; finish(0, 1) = 8\n".repeat(254)
            + "events() = 1016; event(0) = 64771",
        "component(1, 1, 0, 100) = 0; start() = 0\n" + "tick(50) = 0\n".repeat(505)
            + "create(0) = 0; tick(50) = 0; tick(49) = 0; session(0) = 1; tick(1) = 100");
    SessionHost worn = new SessionHost();
    worn.component(0, 1, 0, 0);
    worn.start();
    for (int i = 0; i < 2000; i++) {
      worn.call(0, 0, 0);
      worn.finish(0, 1);
      worn.create(i);
      worn.event(i);
    }
  }

  private static void phases() {
    Boundary.holds(TERMS, "the container is FURNISHED at first", """
        component(0, 1, -1, 0) = 0; component(1, 1, -1, 0) = 1; component(2, 0, -1, 0) = 2
        create(1) = -1; call(0, 0, 0) = -1; call(0, 2, 0) = -1; finish(0, 0) = -1
        tick(0) = -1; tick(1) = -1; submit(0, 0, true) = -1; cancel(0) = 0; shutdown() = -1
        component(2, 0, 0, 0) = 3; depends(2, 3) = true; application(1, true) = true
        start() = 0
        """);
    Boundary.holds(TERMS, "RUNNING after start()", """
        component(0, 1, -1, 0) = 0; component(1, 1, -1, 0) = 1; component(2, 0, -1, 0) = 2
        component(2, 0, 0, 0) = 3; start() = 0
        component(0, 1, 0, 0) = -1; depends(2, 3) = false; application(1, true) = false
        start() = -1; create(1) = 0; call(0, 0, 0) = 20; finish(0, 1) = 8; tick(0) = 0
        tick(1) = 0; submit(2, 0, true) = 0; cancel(0) = 2; instances(3) = 0
        finish(6, 0) = 0; shutdown() = 0
        """);
    Boundary.holds(TERMS, "STOPPING after shutdown()", """
        component(0, 2, -1, 0) = 0; component(1, 1, -1, 5) = 1; component(2, 0, 0, 0) = 2
        component(2, 0, 0, 0) = 3; start() = 0; create(1) = 0; call(0, 0, 0) = 20
        call(0, 8, 0) = 20; submit(0, 0, true) = 0; shutdown() = 0
        component(0, 1, 0, 0) = -1; depends(2, 3) = false; application(1, true) = false
        start() = -1; shutdown() = -1; create(1) = -1; call(0, 0, 0) = -1; call(1, 2, 0) = -1
        tick(0) = -1; tick(1) = -1; submit(0, 0, true) = -1; cancel(0) = 2
        finish(0, 0) = 0; session(0) = 1; finish(6, 1) = 8; instances(0) = 1; state(0) = 1
        """);
    Boundary.holds(TERMS, "and ENDED (see END) from then on when no caller has a method", """
        component(2, 1, 0, 0) = 0; start() = 1; shutdown() = 0; news: created 0, destroyed 0
        instances(0) = 0; finish(0, 0) = -1; call(0, 0, 0) = -1; create(0) = -1; tick(0) = -1
        submit(0, 0, true) = -1; cancel(0) = 0; start() = -1; shutdown() = -1
        component(2, 1, 0, 0) = -1; depends(0, 0) = false; application(1, true) = false
        """, """
        component(2, 1, 0, 0) = 0; start() = 1; call(0, 0, 0) = 20; call(0, 0, 0) = 20
        shutdown() = 0; instances(0) = 1; finish(0, 0) = 0; instances(0) = 1
        finish(0, 0) = 0; instances(0) = 0
        """, """
        component(2, 1, 0, 0) = 0; start() = 1; call(0, 0, 0) = 20; submit(0, 0, true) = 0
        submit(0, 0, true) = 1; shutdown() = 0; finish(0, 0) = 0; instances(0) = 1
        finish(6, 0) = 0; instances(0) = 1; finish(7, 0) = 0; instances(0) = 0
        """);
  }

  private static void components() {
    for (int kind = 0; kind <= 2; kind++) {
      String one = "component(" + kind + ", 1, 0, 0) = ";
      String eight = Boundary.counted(0, 7, one + "?");
      Boundary.holds(TERMS, "COMPONENTS, at most 8, are numbered from 0 as they come",
          eight + one + "-1; instances(7) = 0; instances(8) = -1",
          eight + "start() = " + (kind == 2 ? 8 : 0) + "; " + one + "-1; instances(8) = -1");
    }
    Boundary.holds(TERMS, "COMPONENTS, at most 8, are numbered from 0 as they come", """
        component(3, 1, 0, 0) = -1; component(1, 1, 0, 0) = 0; component(0, 5, 0, 0) = -1
        component(0, 1, 0, 0) = 1; component(2, 0, 0, 1) = -1; component(2, 0, 0, 0) = 2
        start() = 0; create(0) = 0; call(0, 1, 0) = 20; call(0, 2, 0) = 20
        """);
  }

  private static void kinds() {
    for (int size = 1; size <= 4; size++) {
      String pool = "component(0, " + size + ", 0, 0) = 0; start() = 0\n"
          + Boundary.counted(0, size - 1, "instances(0) = ?; call(?, 0, 0) = 20");
      String kept = Boundary.counted(0, size - 1,
          "instances(0) = ?; create(0) = ?; session(0) = 1");
      String count = "instances(0) = " + size + "\n";
      Boundary.holds(TERMS, "Kind 0 STATELESS: a pool of at most size instances",
          pool + count + "call(5, 0, 0) = 11\n" + count,
          pool + "finish(0, 0) = 0; call(5, 0, 0) = 20; call(0, 0, 0) = 11\n" + count,
          pool + "finish(0, 1) = 8; call(5, 0, 0) = 20; call(0, 0, 0) = 11\n" + count);
      Boundary.holds(TERMS, "Kind 1 STATEFUL: sessions, of which size are to be kept in memory",
          "component(1, " + size + ", 0, 0) = 0; start() = 0\n" + kept + count
              + "create(0) = " + size + "; session(0) = 3; session(" + size + ") = 1\n" + count);
    }
    Boundary.holds(TERMS, "Kind 2 SINGLETON: one instance", """
        component(2, 0, 0, 0) = 0; start() = 0; call(0, 0, 0) = 20; call(1, 0, 0) = 20
        call(2, 0, 0) = 20; instances(0) = 1; instance(2) = 0; finish(2, 1) = 8
        call(2, 0, 0) = 20; instance(2) = 0; instances(0) = 1
        """);
    Boundary.holds(TERMS, "size 1 or 3: it is EAGER",
        eager(0, "start() = 0; instances(0) = 0; instances(1) = 0"),
        eager(1, "start() = 2; instances(0) = 1; instances(1) = 1"),
        eager(2, "start() = 0; instances(0) = 0; instances(1) = 0"),
        eager(3, "start() = 1; instances(0) = 0; instances(1) = 1"));
    Boundary.holds(TERMS, "size 2 or 3: it CANNOT BEGIN",
        "component(2, 0, 5, 0) = 0; start() = 0; call(0, 0, 0) = 20; instances(0) = 1",
        "component(2, 1, 5, 0) = 0; start() = 1; call(0, 0, 0) = 20; instances(0) = 1",
        "component(2, 2, 5, 0) = 0; start() = 0; call(0, 0, 0) = 9; instances(0) = 0",
        "component(2, 3, 5, 0) = 0; start() = 0; call(0, 0, 0) = 9; instances(0) = 0");
  }

  /** A singleton that cannot begin still begins what it needs: that shows whether it is eager. */
  private static String eager(int size, String rows) {
    return "component(2, " + size + ", 0, 0) = 0; component(2, 0, 0, 0) = 1; depends(0, 1) = true\n"
        + rows;
  }

  private static void instancesAndSessions() {
    Boundary.holds(TERMS, "INSTANCES get the numbers 0, 1, .. in the order in which they are made,"
        + " over all components", """
        component(0, 2, 0, 0) = 0; component(1, 1, 0, 0) = 1; component(2, 0, 0, 0) = 2
        component(2, 1, 0, 0) = 3; start() = 1; news: created 0
        call(0, 0, 0) = 20; create(1) = 0; call(0, 2, 0) = 20; call(1, 0, 0) = 20
        news: created 1, entered 1 by 0, created 2, created 3, entered 3 by 0, created 4,\
         entered 4 by 1
        finish(1, 1) = 8; call(1, 0, 0) = 20; instance(1) = 5
        """);
    String two = "component(1, 4, 0, 0) = 0; component(1, 2, 0, 0) = 1; start() = 0\n";
    String made = two + Boundary.counted(0, 11, "create(0) = ?")
        + Boundary.counted(12, 23, "create(1) = ?");
    Boundary.holds(TERMS, "SESSIONS, at most 24, get numbers 0, 1, .. likewise",
        made + "session(23) = 1; create(0) = -1; create(1) = -1; session(24) = 0",
        made + "call(0, 31, 1) = 20; finish(0, 0) = 0; session(23) = 0; create(1) = -1",
        two + "create(1) = 0; call(0, 8, 1) = 20; finish(0, 0) = 0; create(0) = 1");
    Boundary.holds(TERMS, "a session is made with one instance, which stays its own", """
        component(1, 1, 0, 0) = 0; start() = 0; create(0) = 0; create(0) = 1
        news: created 0, created 1, putaway 0
        call(0, 8, 0) = 20; instance(0) = 0; finish(0, 0) = 0; call(0, 9, 0) = 20
        instance(0) = 1; finish(0, 0) = 0; call(0, 8, 0) = 20; instance(0) = 0
        news: activated 0, entered 0 by 0, putaway 1, left 0 by 0, activated 1, entered 1 by 0,\
         putaway 0, left 1 by 0, activated 0, entered 0 by 0, putaway 1
        """);
    Boundary.holds(TERMS, "A session is either GONE or in memory or PUT AWAY", """
        component(1, 1, 0, 0) = 0; start() = 0; create(0) = 0; session(0) = 1; create(0) = 1
        session(0) = 3; instances(0) = 1; call(0, 8, 1) = 20; session(1) = 3; instances(0) = 1
        finish(0, 0) = 0; session(0) = 0; session(1) = 3; instances(0) = 0; call(0, 9, 1) = 20
        finish(0, 0) = 0; session(1) = 0; instances(0) = 0
        """);
    Boundary.holds(TERMS, "it is IN USE while a caller has a method in it", """
        component(1, 1, 0, 0) = 0; component(0, 1, 0, 0) = 1; start() = 0; create(0) = 0
        session(0) = 1; call(0, 8, 0) = 20; session(0) = 2; call(0, 1, 0) = 20
        session(0) = 2; finish(0, 0) = 0; session(0) = 2; call(1, 8, 0) = 11
        finish(0, 0) = 0; session(0) = 1; call(1, 8, 0) = 20
        """);
  }

  private static void targets() {
    String seven = "component(0, 1, 0, 0) = 0; component(1, 1, 0, 0) = 1\n"
        + "component(2, 0, 0, 0) = 2; component(2, 0, 0, 0) = 3; component(2, 0, 0, 0) = 4\n"
        + "component(2, 0, 0, 0) = 5; component(1, 1, 0, 0) = 6\n";
    String sentence = "0 .. 7 is the component of that number if it is stateless or a singleton"
        + " (else there is no such target)";
    Boundary.holds(TERMS, sentence,
        seven + """
        start() = 0; call(0, 0, 0) = 20; call(0, 1, 0) = -1; call(0, 2, 0) = 20
        call(0, 6, 0) = -1; call(0, 7, 0) = -1; call(0, -1, 0) = -1; call(0, 8, 0) = -1
        waiting(-1) = -1; waiting(0) = 0; waiting(1) = -1; waiting(5) = 0; waiting(6) = -1
        waiting(7) = -1; waiting(8) = -1; submit(1, 0, true) = -1; submit(7, 0, true) = -1
        """,
        seven + """
        component(0, 1, 0, 0) = 7; start() = 0; waiting(7) = 0; call(0, 7, 0) = 20
        call(0, 7, 1) = -1; submit(7, 0, true) = 0; task(0) = 196
        """,
        seven + """
        component(1, 1, 0, 0) = 7; start() = 0; waiting(7) = -1; call(0, 7, 0) = -1
        submit(7, 0, true) = -1; create(7) = 0; call(0, 7, 0) = -1; call(0, 8, 0) = 20
        """,
        seven + """
        component(2, 0, 0, 0) = 7; start() = 0; waiting(7) = 0; call(0, 7, 1) = 20
        submit(7, 0, true) = 0; task(0) = 196
        """);
    Boundary.holds(TERMS, "8 + s is session s, if it was ever made", """
        component(1, 1, 0, 0) = 0; start() = 0; call(0, 8, 0) = -1; waiting(8) = -1
        submit(8, 0, true) = -1; create(0) = 0; call(0, 9, 0) = -1; waiting(9) = -1
        submit(9, 0, true) = -1; waiting(8) = 0; call(0, 8, 1) = 20; finish(0, 0) = 0
        session(0) = 0; call(0, 8, 0) = 9; waiting(8) = 0; submit(8, 0, true) = 0
        task(0) = 164; call(0, 9, 0) = -1
        """,
        "component(1, 4, 0, 0) = 0; start() = 0\n" + Boundary.counted(0, 23, "create(0) = ?") + """
        call(0, 31, 0) = 20; instance(0) = 23; call(1, 32, 0) = -1; call(1, MAX, 0) = -1
        call(1, 30, 0) = 20; instance(1) = 22; waiting(31) = 0; waiting(32) = -1
        waiting(MIN) = -1; submit(32, 0, true) = -1; submit(31, 0, true) = 0; task(0) = 196
        """);
  }

  private static void modes() {
    String three = "component(0, 1, 0, 0) = 0; component(1, 1, 0, 0) = 1\n"
        + "component(2, 0, 0, 0) = 2; start() = 0; create(1) = 0";
    String pool = "MODES of a call: of a stateless component 0";
    String session = "of a session 0 plain, 1 REMOVING, 2 REMOVING WHEN WELL";
    String singleton = "of a singleton 0 READING, 1 WRITING";
    for (String form : new String[] {"call(0, T, ?)", "submit(T, ?, true)"}) {
      String done = form.startsWith("call") ? "20" : "0";
      Boundary.range(TERMS, pool, three, form.replace("T", "0"),
          new Boundary.Range(0, 0, done, "-1"));
      Boundary.range(TERMS, session, three, form.replace("T", "8"),
          new Boundary.Range(0, 2, done, "-1"));
      Boundary.range(TERMS, singleton, three, form.replace("T", "2"),
          new Boundary.Range(0, 1, done, "-1"));
    }
    String one = "component(1, 1, 0, 0) = 0; application(1, true) = true; start() = 0\n"
        + "create(0) = 0\n";
    Boundary.holds(TERMS, session,
        one + "call(0, 8, 0) = 20; finish(0, 0) = 0; session(0) = 1",
        one + "call(0, 8, 0) = 20; finish(0, 1) = 1; session(0) = 1",
        one + "call(0, 8, 1) = 20; finish(0, 0) = 0; session(0) = 0",
        one + "call(0, 8, 1) = 20; finish(0, 1) = 1; session(0) = 0",
        one + "call(0, 8, 2) = 20; finish(0, 0) = 0; session(0) = 0",
        one + "call(0, 8, 2) = 20; finish(0, 1) = 1; session(0) = 1");
    String begun = "component(2, 1, 0, 0) = 0; start() = 1\n";
    Boundary.holds(TERMS, singleton,
        begun + "call(0, 0, 0) = 20; call(1, 0, 0) = 20; call(2, 0, 1) = 11",
        begun + "call(0, 0, 1) = 20; call(1, 0, 0) = 11; call(2, 0, 1) = 11");
  }

  private static void callers() {
    String pool = "component(0, 4, -1, 0) = 0; start() = 0";
    String sentence = "CALLERS are 0 .. 7; 6 and 7 are the WORKERS";
    Boundary.range(TERMS, sentence, pool, "state(?)", new Boundary.Range(0, 7, "0", "-1"));
    Boundary.range(TERMS, sentence, pool, "call(?, 0, 0)", new Boundary.Range(0, 5, "20", "-1"));
    Boundary.holds(TERMS, sentence,
        pool + "; call(7, 0, 0) = -1; call(8, 0, 0) = -1; call(5, 0, 0) = 20; finish(5, 0) = 0",
        pool + """
        ; submit(0, 0, true) = 0; submit(0, 0, true) = 1; submit(0, 0, true) = 2; state(5) = 0
        state(6) = 1; state(7) = 1; task(2) = 1; call(6, 0, 0) = 20; call(7, 0, 0) = 20
        state(6) = 2; state(7) = 2; finish(7, 0) = 0; finish(6, 0) = 0; task(2) = 1
        finish(7, 0) = 0; task(1) = 20; task(2) = 2; finish(8, 0) = -1
        """);
  }

  private static void stacks() {
    Boundary.holds(TERMS, "A caller has a stack of at most 4 METHODS", """
        component(0, 4, -1, 0) = 0; component(2, 0, 0, 0) = 1; component(1, 1, 0, 0) = 2
        component(2, 2, 0, 0) = 3; start() = 0; create(2) = 0; call(0, 0, 0) = 20
        call(0, 8, 0) = 20; call(0, 1, 1) = 20; state(0) = 3; call(0, 1, 0) = 20; state(0) = 4
        call(0, 1, 0) = -1; call(0, 0, 0) = -1; call(0, 8, 0) = -1; call(0, 3, 0) = -1
        finish(0, 0) = 0; state(0) = 3; call(0, 8, 0) = 12; call(0, 3, 0) = 9
        call(0, 0, 0) = 20; state(0) = 4; call(0, 0, 0) = -1
        finish(0, 0) = 0; finish(0, 0) = 0; finish(0, 0) = 0; finish(0, 0) = 0
        state(0) = 0; finish(0, 0) = -1
        """, """
        component(0, 4, -1, 0) = 0; start() = 0; submit(0, 0, true) = 0; call(6, 0, 0) = 20
        call(6, 0, 0) = 20; call(6, 0, 0) = 20; state(6) = 4; call(6, 0, 0) = -1
        """, """
        component(0, 1, -1, 0) = 0; component(2, 0, 0, 0) = 1; start() = 0; call(1, 0, 0) = 20
        call(0, 1, 0) = 20; call(0, 1, 0) = 20; call(0, 1, 0) = 20; call(0, 0, 0) = 21
        state(0) = 11; finish(1, 0) = 0; state(0) = 4; call(0, 1, 0) = -1
        """);
    Boundary.holds(TERMS, "every method has a target, an instance and a mode; the caller is IN"
        + " the latest one", """
        component(1, 4, 0, 0) = 0; application(1, true) = true; start() = 0; create(0) = 0
        create(0) = 1; create(0) = 2; call(0, 10, 1) = 20; call(0, 8, 0) = 20
        call(0, 9, 2) = 20; instance(0) = 1; finish(0, 1) = 1; session(1) = 1
        instance(0) = 0; finish(0, 0) = 0; session(0) = 1; instance(0) = 2
        finish(0, 0) = 0; session(2) = 0; instance(0) = -1
        """);
    Boundary.holds(TERMS, "A caller may WAIT in the LINE of one target (with a mode)", """
        component(0, 1, -1, 0) = 0; component(2, 0, -1, 0) = 1; start() = 0; call(0, 0, 0) = 20
        call(0, 1, 0) = 20; call(1, 1, 1) = 21; call(1, 0, 0) = -1; waiting(0) = 0
        waiting(1) = 1; finish(0, 0) = 0; state(1) = 1; call(2, 1, 0) = 21
        """);
    Boundary.holds(TERMS, "while it waits it makes no other call and ends no method", """
        component(0, 1, -1, 0) = 0; component(2, 0, -1, 0) = 1; start() = 0; call(0, 0, 0) = 20
        call(1, 1, 0) = 20; call(1, 0, 0) = 21; call(1, 1, 0) = -1; call(1, 0, 0) = -1
        finish(1, 0) = -1; waiting(0) = 1; state(1) = 9; finish(0, 0) = 0; state(1) = 2
        finish(1, 0) = 0; call(1, 1, 0) = 20; state(1) = 2
        """, """
        component(0, 1, -1, 0) = 0; component(2, 0, -1, 0) = 1; start() = 0; call(0, 0, 0) = 20
        call(1, 0, 0) = 21; call(1, 1, 0) = -1; finish(1, 0) = -1; state(1) = 8
        """);
  }

  private static void results() {
    Boundary.holds(TERMS, "RESULTS: 0 the method ended well; 1 .. 7 it ended with an application"
        + " exception of that type",
        "component(2, 0, 0, 0) = 0; application(1, true) = true; start() = 0\n"
            + Boundary.counted(0, 7, "call(0, 0, 0) = 20; finish(0, ?) = ?; result(0) = ?"));
    Boundary.holds(TERMS, "8 SYSTEM; 9 NOSUCH; 10 TIMEOUT; 11 BUSY; 12 LOOPBACK; 13 STOPPED", """
        component(2, 0, 0, 0) = 0; component(2, 2, 0, 0) = 1; component(0, 1, 1, 0) = 2
        start() = 0; call(0, 0, 0) = 20; finish(0, 1) = 8; result(0) = 8
        call(0, 1, 0) = 9; result(0) = 9; call(1, 2, 0) = 20; call(0, 2, 0) = 21
        tick(1) = 1; result(0) = 10; call(1, 0, 1) = 20; call(0, 0, 1) = 11; result(0) = 11
        finish(1, 0) = 0; call(0, 0, 0) = 20; call(0, 0, 1) = 12; result(0) = 12
        call(0, 2, 0) = 21; shutdown() = 1; result(0) = 13
        """);
    Boundary.holds(TERMS, "When a caller GETS a result, that is its latest result from then on", """
        component(2, 0, -1, 0) = 0; component(2, 2, 0, 0) = 1; start() = 0; result(0) = -1
        call(0, 0, 1) = 20; result(0) = -1; call(0, 1, 0) = 9; result(0) = 9
        call(0, 0, 0) = 20; result(0) = 9; finish(0, 0) = 0; result(0) = 0; finish(0, 8) = -1
        result(0) = 0; call(1, 0, 0) = 21; result(1) = -1; finish(0, 7) = 8; result(0) = 8
        state(1) = 1; result(1) = -1
        """);
    Boundary.holds(TERMS, "is it a worker that has no method, its task is DONE with that result,"
        + " and it has no task any more", """
        component(2, 0, 0, 0) = 0; component(2, 2, 0, 0) = 1; start() = 0
        submit(0, 0, true) = 0; call(6, 1, 0) = 9; task(0) = 2; call(6, 0, 1) = 12
        task(0) = 2; call(6, 0, 0) = 20; finish(6, 1) = 8; task(0) = 2; submit(0, 0, true) = 1
        submit(0, 0, true) = 2; task(2) = 1; finish(6, 0) = 0; task(0) = 20; task(2) = 2
        state(6) = 1; task(1) = 2; finish(7, 2) = 8; task(1) = 148; state(7) = 0
        """, """
        component(2, 2, 0, 0) = 0; start() = 0; submit(0, 0, true) = 0; task(0) = 164
        result(6) = 9; submit(0, 0, true) = 1; task(1) = 164; result(7) = -1
        """);
  }

  private static void exceptionTypes() {
    String before = "component(2, 0, 0, 0) = 0; start() = 0; call(0, 0, 0) = 20";
    Boundary.range(TERMS, "EXCEPTION TYPES are 1 .. 7", "", "application(?, true)",
        new Boundary.Range(1, 7, "true", "false"));
    Boundary.holds(TERMS, "EXCEPTION TYPES are 1 .. 7",
        before + "; finish(0, 8) = -1; finish(0, 7) = 8",
        before + "; finish(0, -1) = -1; finish(0, 1) = 8", before + "; finish(0, 0) = 0");
    Boundary.holds(TERMS, "the parent of type e is e / 2, type 1 has none",
        outcomes("application(1, true) = true", "1234567"),
        outcomes("application(2, true) = true", "8284588"),
        outcomes("application(3, true) = true", "8838867"),
        outcomes("application(4, true) = true", "8884888"),
        outcomes("application(7, true) = true", "8888887"));
    Boundary.holds(TERMS, "It is an APPLICATION exception if it is marked",
        outcomes("application(1, false) = true", "1888888"),
        outcomes("application(3, false) = true", "8838888"),
        outcomes("application(7, false) = true", "8888887"));
    Boundary.holds(TERMS, "or if it is not marked, but some type among its parent, the parent's"
        + " parent and so on is, and the nearest of those that are marked is marked as inherited",
        outcomes("application(1, true) = true; application(2, false) = true", "1238867"),
        outcomes("application(2, true) = true; application(1, false) = true", "1284588"),
        outcomes("application(1, true) = true; application(4, false) = true", "1234567"),
        outcomes("application(1, false) = true; application(3, true) = true", "1838867"));
    Boundary.holds(TERMS, "Else it is a SYSTEM exception", outcomes("", "8888888"),
        outcomes("application(2, false) = true; application(3, false) = true", "8238888"));
  }

  /** The results of methods that end with each of the types 1 .. 7 in turn. */
  private static String outcomes(String marks, String results) {
    StringBuilder rows = new StringBuilder(marks + "\ncomponent(2, 0, 0, 0) = 0; start() = 0\n");
    for (int e = 1; e <= 7; e++) {
      rows.append("call(0, 0, 0) = 20; finish(0, " + e + ") = " + results.charAt(e - 1) + "\n");
    }
    return rows.toString();
  }
}
