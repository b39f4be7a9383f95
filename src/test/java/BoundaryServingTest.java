/** Boundary cases of promises 6 to 9: create, call, finish and tick. */
public final class BoundaryServingTest {
  public static void main(String[] args) {
    create();
    createRefused();
    callAnswers();
    callRefused();
    callRefusedForTheCaller();
    finish();
    finishRefused();
    tickSteps();
    tickTimeouts();
    tickSettles();
    tickIdle();
    tickAnswers();
    Script.end();
  }

  private static void create() {
    Boundary.holds("Promise 6", "Makes a session of component c (event CREATED), in memory and not"
        + " in use, settles, and answers the session's number", """
        component(1, 1, 0, 0) = 0; start() = 0; create(0) = 0; news: created 0; session(0) = 1
        create(0) = 1; news: created 1, putaway 0; session(0) = 3; session(1) = 1
        call(0, 9, 0) = 20; create(0) = 2; news: entered 1 by 0, created 2, putaway 2
        session(1) = 2; session(2) = 3
        """);
  }

  private static void createRefused() {
    Boundary.holds("Promise 6", "-1 if the container is not RUNNING", """
        component(1, 1, 0, 0) = 0; component(2, 0, 0, 0) = 1; create(0) = -1; start() = 0
        create(0) = 0; call(0, 1, 0) = 20; shutdown() = 0; create(0) = -1; finish(0, 0) = 0
        create(0) = -1; session(1) = 0; events() = 6
        """);
    String sentence = "there is no stateful component c";
    String eight = Boundary.counted(0, 7, "component(1, 1, 0, 0) = ?");
    Boundary.Range all = new Boundary.Range(0, 7, "0", "-1");
    Boundary.range("Promise 6", sentence, eight + "start() = 0", "create(?)", all);
    String mixed = "component(0, 1, 0, 0) = 0; component(1, 1, 0, 0) = 1\n"
        + "component(1, 1, 0, 0) = 2; component(2, 0, 0, 0) = 3; start() = 0";
    Boundary.range("Promise 6", sentence, mixed, "create(?)", new Boundary.Range(1, 2, "0", "-1"));
    Boundary.holds("Promise 6", sentence,
        mixed + "; create(4) = -1; create(8) = -1; create(9) = -1",
        mixed + "; create(2) = 0; create(8) = -1; create(9) = -1; create(3) = -1; session(1) = 0");
    String made = "component(1, 2, 0, 0) = 0; component(1, 4, 0, 0) = 1; start() = 0\n"
        + Boundary.counted(0, 11, "create(0) = ?") + Boundary.counted(12, 22, "create(1) = ?");
    Boundary.holds("Promise 6", "or 24 sessions were made",
        made + "create(0) = 23; create(0) = -1; create(1) = -1; session(23) = 1",
        made + "create(1) = 23; call(0, 8, 1) = 20; finish(0, 0) = 0; create(0) = -1",
        made + "call(0, 8, 1) = 20; finish(0, 0) = 0; create(1) = 23; create(1) = -1");
  }

  private static void callAnswers() {
    Boundary.holds("Promise 7", "Answers 20 if the call made it enter, 21 if the call made it wait"
        + " (whatever settling does then), else the result that it got from the call", """
        component(0, 1, 1, 0) = 0; component(2, 2, 0, 0) = 1; component(2, 0, 0, 0) = 2
        start() = 0; call(0, 0, 0) = 20; result(0) = -1; call(1, 0, 0) = 21; result(1) = -1
        call(0, 1, 0) = 9; result(0) = 9; call(0, 2, 0) = 20; result(0) = 9; call(0, 2, 1) = 12
        result(0) = 12; call(2, 2, 1) = 11; result(2) = 11
        """);
    Boundary.holds("Promise 7", "The call of a target by a caller with a mode, then settling", """
        component(1, 1, 0, 0) = 0; start() = 0; create(0) = 0; create(0) = 1
        news: created 0, created 1, putaway 0
        call(0, 8, 0) = 20; news: activated 0, entered 0 by 0, putaway 1
        """);
  }

  private static void callRefused() {
    Boundary.holds("Promise 7", "-1 if the container is not RUNNING", """
        component(0, 4, -1, 0) = 0; call(0, 0, 0) = -1; start() = 0; call(0, 0, 0) = 20
        shutdown() = 0; call(0, 0, 0) = -1; call(1, 0, 0) = -1; finish(0, 0) = 0
        call(0, 0, 0) = -1; events() = 4; instances(0) = 0
        """);
    String pool = "component(0, 1, 0, 0) = 0; component(1, 1, 0, 0) = 1\n"
        + "component(0, 1, 0, 0) = 2; start() = 0; create(1) = 0";
    Boundary.range("Promise 7", "there is no such target", pool, "call(0, ?, 0)",
        new Boundary.Range(0, 0, "20", "-1"));
    Boundary.range("Promise 7", "there is no such target", pool, "call(0, ?, 0)",
        new Boundary.Range(2, 2, "20", "-1"));
    Boundary.range("Promise 7", "there is no such target", pool, "call(0, ?, 0)",
        new Boundary.Range(8, 8, "20", "-1"));
    String three = "component(0, 1, 0, 0) = 0; component(1, 1, 0, 0) = 1\n"
        + "component(2, 0, 0, 0) = 2; start() = 0; create(1) = 0";
    String sentence = "or the mode is none of that target's";
    Boundary.range("Promise 7", sentence, three, "call(5, 0, ?)",
        new Boundary.Range(0, 0, "20", "-1"));
    Boundary.range("Promise 7", sentence, three, "call(5, 8, ?)",
        new Boundary.Range(0, 2, "20", "-1"));
    Boundary.range("Promise 7", sentence, three, "call(5, 2, ?)",
        new Boundary.Range(0, 1, "20", "-1"));
    Boundary.holds("Promise 7", sentence, """
        component(2, 2, 0, 0) = 0; component(1, 1, 0, 0) = 1; start() = 0; create(1) = 0
        call(0, 8, 1) = 20; finish(0, 0) = 0; call(0, 8, 3) = -1; call(0, 8, 2) = 9
        call(0, 0, 2) = -1; call(0, 0, 1) = 9
        """);
  }

  private static void callRefusedForTheCaller() {
    String pool = "component(0, 4, -1, 0) = 0; start() = 0";
    Boundary.range("Promise 7", "caller is not 0 .. 7", pool, "call(?, 0, 0)",
        new Boundary.Range(0, 5, "20", "-1"));
    Boundary.holds("Promise 7", "caller is not 0 .. 7",
        pool + "; submit(0, 0, true) = 0; submit(0, 0, true) = 1\n"
            + "call(7, 0, 0) = 20; call(8, 0, 0) = -1; call(6, 0, 0) = 20; call(-1, 0, 0) = -1");
    Boundary.holds("Promise 7", "it waits", """
        component(0, 1, 2, 0) = 0; component(2, 0, 0, 0) = 1; start() = 0; call(0, 0, 0) = 20
        call(1, 0, 0) = 21; call(1, 1, 0) = -1; call(1, 0, 0) = -1; tick(1) = 0
        call(1, 1, 0) = -1; tick(1) = 1; call(1, 1, 0) = 20; waiting(0) = 0
        """);
    Boundary.holds("Promise 7", "it has 4 methods",
        pool + "\n" + "call(0, 0, 0) = 20\n".repeat(4) + "call(0, 0, 0) = -1; state(0) = 4\n"
            + "finish(0, 0) = 0; call(0, 0, 0) = 20; state(0) = 4; call(0, 0, 0) = -1",
        """
        component(2, 0, 0, 0) = 0; component(2, 2, 0, 0) = 1; start() = 0; call(0, 0, 1) = 20
        call(0, 0, 0) = 20; call(0, 0, 1) = 20; call(0, 1, 0) = 9; call(0, 0, 0) = 20
        call(0, 1, 0) = -1; call(0, 0, 0) = -1; result(0) = 9
        """);
    Boundary.holds("Promise 7", "it is a worker that has no method",
        pool + "; call(6, 0, 0) = -1; call(7, 0, 0) = -1; call(5, 0, 0) = 20\n"
            + "submit(0, 0, true) = 0; call(6, 0, 0) = 20; call(7, 0, 0) = -1; finish(6, 0) = 0\n"
            + "call(6, 0, 0) = 20; finish(6, 0) = 0; finish(6, 0) = 0; call(6, 0, 0) = -1",
        """
        component(0, 1, -1, 0) = 0; component(2, 0, 0, 0) = 1; start() = 0; call(0, 0, 0) = 20
        submit(0, 0, true) = 0; state(6) = 8; call(6, 1, 0) = -1
        """);
  }

  private static void finish() {
    Boundary.holds("Promise 8", "then settling if the container is RUNNING, or END if it is"
        + " STOPPING and no caller has a method any more", """
        component(0, 1, -1, 0) = 0; start() = 0; call(0, 0, 0) = 20; call(1, 0, 0) = 21
        finish(0, 0) = 0; state(1) = 1; finish(1, 0) = 0; instances(0) = 1; call(0, 0, 0) = 20
        """, """
        component(1, 1, 0, 0) = 0; start() = 0; create(0) = 0; create(0) = 1
        call(0, 8, 0) = 20; call(0, 9, 0) = 20; call(1, 8, 0) = 11; shutdown() = 0
        finish(0, 0) = 0; session(0) = 2; session(1) = 1; instances(0) = 2; finish(0, 0) = 0
        session(0) = 0; session(1) = 0
        """, """
        component(2, 1, 0, 0) = 0; start() = 1; call(5, 0, 0) = 20; submit(0, 0, true) = 0
        shutdown() = 0; finish(5, 0) = 0; instances(0) = 1; call(5, 0, 0) = -1
        finish(6, 0) = 0; instances(0) = 0; finish(6, 0) = -1
        """);
    Boundary.holds("Promise 8", "Answers the result that the caller got from the end (a worker"
        + " without methods then: its task is DONE with it)", """
        component(0, 4, 0, 0) = 0; application(3, false) = true; start() = 0
        submit(0, 0, true) = 0; call(6, 0, 0) = 20; finish(6, 3) = 3; task(0) = 2
        finish(6, 1) = 8; task(0) = 148; submit(0, 0, true) = 1; finish(6, 3) = 3
        task(1) = 68; submit(0, 0, true) = 2; finish(6, 0) = 0; task(2) = 20
        """);
  }

  private static void finishRefused() {
    String pool = "component(0, 4, 0, 0) = 0; start() = 0; call(0, 0, 0) = 20; call(5, 0, 0) = 20\n"
        + "submit(0, 0, true) = 0; submit(0, 0, true) = 1";
    Boundary.range("Promise 8", "-1 if caller is not 0 .. 7", pool, "finish(?, 0)",
        new Boundary.Range(0, 7, "0", "-1"));
    Boundary.holds("Promise 8", "has no method or waits", """
        component(0, 1, -1, 0) = 0; component(2, 0, 0, 0) = 1; start() = 0; finish(0, 0) = -1
        call(0, 0, 0) = 20; finish(1, 0) = -1; call(1, 1, 0) = 20; call(1, 0, 0) = 21
        finish(1, 0) = -1; call(2, 0, 0) = 21; finish(2, 0) = -1; finish(0, 0) = 0
        finish(0, 0) = -1; finish(1, 0) = 0; finish(2, 0) = 0; finish(2, 0) = -1
        finish(1, 0) = 0; finish(1, 0) = -1; finish(6, 0) = -1
        """);
    String begun = "component(2, 0, 0, 0) = 0; application(1, true) = true; start() = 0\n"
        + "call(0, 0, 0) = 20";
    String sentence = "or outcome is not 0 .. 7";
    Boundary.holds("Promise 8", sentence, begun + "; finish(0, -1) = -1; finish(0, 0) = 0",
        begun + "; finish(0, 8) = -1; finish(0, 7) = 7",
        begun + "; finish(0, MIN) = -1; finish(0, MAX) = -1; state(0) = 1; result(0) = -1");
  }

  private static void tickSteps() {
    String sentence = "-1 if the container is not RUNNING or n is not 0 .. 50";
    Boundary.range("Promise 9", sentence, "start() = 0", "tick(?)",
        new Boundary.Range(0, 50, "0", "-1"));
    Boundary.holds("Promise 9", sentence, """
        component(2, 0, 0, 0) = 0; tick(0) = -1; tick(1) = -1; start() = 0; tick(0) = 0
        call(0, 0, 0) = 20; shutdown() = 0; tick(0) = -1; tick(1) = -1; finish(0, 0) = 0
        tick(0) = -1; tick(1) = -1
        """, """
        component(1, 1, 0, 3) = 0; start() = 0; create(0) = 0; tick(51) = -1; tick(-1) = -1
        tick(2) = 0; tick(51) = -1; tick(MAX) = -1; session(0) = 1; tick(1) = 100
        """);
    Boundary.holds("Promise 9", "The clock goes on by n, one by one. At each of the n steps the"
        + " clock grows by 1", """
        component(0, 1, 100, 0) = 0; start() = 0; call(0, 0, 0) = 20; call(1, 0, 0) = 21
        tick(50) = 0; tick(0) = 0; tick(49) = 0; state(1) = 8; tick(1) = 1; state(1) = 0
        """, """
        component(0, 1, 20, 0) = 0; start() = 0; call(0, 0, 0) = 20; submit(0, 0, true) = 0
        submit(0, 0, true) = 1; submit(0, 0, true) = 2; tick(50) = 3; task(2) = 180
        """);
    Boundary.holds("Promise 9", "(n 0: 0, nothing is settled)", """
        component(0, 1, 1, 0) = 0; component(1, 1, 0, 1) = 1; start() = 0; create(1) = 0
        call(0, 0, 0) = 20; call(1, 0, 0) = 21; tick(0) = 0; tick(0) = 0; state(1) = 8
        session(0) = 1; tick(1) = 101
        """);
  }

  private static void tickTimeouts() {
    String sentence = "then, by ascending number, every caller that waits in the line of a target"
        + " whose timeout is not -1, and has waited since the clock was at most clock - timeout,"
        + " leaves the line and gets TIMEOUT";
    for (int timeout : new int[] {1, 2, 49, 50}) {
      String last = "tick(1) = 1; result(1) = 10; state(1) = 0; waiting(0) = 0\n";
      String before = "tick(" + (timeout - 1) + ") = 0; state(1) = 8; waiting(0) = 1\n";
      String waits = "component(0, 1, " + timeout + ", 0) = 0; start() = 0; tick(7) = 0\n"
          + "call(0, 0, 0) = 20; call(1, 0, 0) = 21\n";
      Boundary.holds("Promise 9", sentence, waits + before + last,
          waits + "tick(" + timeout + ") = 1; result(1) = 10",
          waits + before + "finish(0, 0) = 0; state(1) = 1; tick(50) = 0; result(1) = -1");
    }
    Boundary.holds("Promise 9", sentence, """
        component(0, 1, -1, 0) = 0; start() = 0; call(0, 0, 0) = 20; call(1, 0, 0) = 21
        tick(1) = 0; tick(50) = 0; tick(50) = 0; tick(50) = 0; state(1) = 8
        """, """
        component(2, 0, 3, 0) = 0; component(1, 1, 2, 0) = 1; start() = 0; create(1) = 0
        call(0, 0, 1) = 20; call(0, 8, 0) = 20; call(1, 0, 0) = 21; call(2, 8, 0) = 21
        tick(1) = 0; call(3, 0, 0) = 21; tick(1) = 1; result(2) = 10; state(1) = 8; tick(1) = 1
        result(1) = 10; state(3) = 8; tick(1) = 1; result(3) = 10
        """, """
        component(2, 0, 3, 0) = 0; component(0, 1, 0, 0) = 1; start() = 0; call(0, 0, 1) = 20
        call(1, 1, 0) = 20; call(1, 0, 0) = 21; state(1) = 9; tick(3) = 1; state(1) = 1
        instance(1) = 1; finish(1, 0) = 0; result(1) = 0
        """);
  }

  private static void tickSettles() {
    Boundary.holds("Promise 9", "then settling; then, by ascending number, every session that is"
        + " not gone and not in use", """
        component(1, 1, 0, 2) = 0; component(1, 4, 0, 2) = 1; start() = 0; create(1) = 0
        create(0) = 1; create(0) = 2; create(1) = 3; tick(1) = 0; call(0, 11, 0) = 20
        news: created 0, created 1, created 2, putaway 1, created 3, entered 3 by 0
        tick(1) = 300; news: destroyed 0, dropped 1, destroyed 2; session(3) = 2
        """, """
        component(0, 1, 2, 0) = 0; component(1, 4, 0, 2) = 1; start() = 0; create(1) = 0
        create(1) = 1; call(0, 0, 0) = 20; submit(0, 0, true) = 0; submit(0, 0, true) = 1
        submit(8, 0, true) = 2; tick(1) = 0; tick(1) = 102; session(0) = 2; session(1) = 0
        """, """
        component(0, 1, 1, 0) = 0; component(1, 1, 0, 1) = 1; start() = 0; create(1) = 0
        create(1) = 1; call(0, 0, 0) = 20; submit(0, 0, true) = 0; submit(0, 0, true) = 1
        submit(8, 0, true) = 2; news: created 0, created 1, putaway 0, created 2, entered 2 by 0
        tick(1) = 102; news: activated 0, entered 0 by 6, putaway 1, dropped 1; session(0) = 2
        """, """
        component(2, 1, 1, 0) = 0; start() = 1; call(0, 0, 0) = 20; call(1, 0, 1) = 21
        call(2, 0, 0) = 21; tick(1) = 2; result(1) = 10; result(2) = 10; state(2) = 0
        """, """
        component(2, 1, 2, 0) = 0; start() = 1; call(0, 0, 0) = 20; call(1, 0, 1) = 21
        tick(1) = 0; call(2, 0, 0) = 21; tick(1) = 1; result(1) = 10; state(2) = 1
        """);
  }

  private static void tickIdle() {
    String sentence = "every session that is not gone and not in use, whose component has an idle"
        + " limit other than 0, and whose latest use was when the clock was at most clock - limit,"
        + " is gone: event DESTROYED if it was in memory, DROPPED if it was put away";
    for (int limit : new int[] {1, 2, 49, 50}) {
      String made = "component(1, 1, 0, " + limit + ") = 0; start() = 0; tick(7) = 0\n"
          + "create(0) = 0\n";
      String before = "tick(" + (limit - 1) + ") = 0; session(0) = 1; instances(0) = 1\n";
      Boundary.holds("Promise 9", sentence,
          made + before + "tick(1) = 100; session(0) = 0; news: created 0, destroyed 0",
          made + "tick(" + limit + ") = 100; session(0) = 0; instances(0) = 0",
          made + before + "call(0, 8, 0) = 20; tick(50) = 0; session(0) = 2; finish(0, 0) = 0\n"
              + before + "tick(1) = 100; session(0) = 0",
          made + "create(0) = 1; session(0) = 3; tick(" + limit + ") = 200\n"
              + "news: created 0, created 1, putaway 0, dropped 0, destroyed 1");
    }
    Boundary.holds("Promise 9", sentence, """
        component(1, 1, 0, 100) = 0; start() = 0; create(0) = 0; tick(50) = 0; tick(49) = 0
        session(0) = 1; tick(1) = 100; session(0) = 0; tick(50) = 0; tick(50) = 0; events() = 2
        """, """
        component(1, 1, 0, 0) = 0; start() = 0; create(0) = 0; create(0) = 1; tick(50) = 0
        tick(50) = 0; tick(50) = 0; session(0) = 3; session(1) = 1
        """, """
        component(1, 4, 0, 5) = 0; component(1, 4, 0, 3) = 1; start() = 0; create(0) = 0
        create(1) = 1; create(0) = 2; create(1) = 3; tick(2) = 0; call(0, 8, 0) = 20
        tick(1) = 200; session(1) = 0; session(3) = 0; tick(2) = 100; session(2) = 0
        finish(0, 0) = 0; tick(4) = 0; tick(1) = 100; session(0) = 0
        news: created 0, created 1, created 2, created 3, entered 0 by 0, destroyed 1,\
         destroyed 3, destroyed 2, left 0 by 0, destroyed 0
        """);
  }

  private static void tickAnswers() {
    String sentence = "Answers how many got TIMEOUT + 100 * how many sessions went so";
    Boundary.holds("Promise 9", sentence, """
        component(0, 1, 1, 0) = 0; component(1, 4, 0, 1) = 1; start() = 0; call(0, 0, 0) = 20
        call(1, 0, 0) = 21; call(2, 0, 0) = 21; call(3, 0, 0) = 21; call(4, 0, 0) = 21
        call(5, 0, 0) = 21; submit(0, 0, true) = 0; submit(0, 0, true) = 1; create(1) = 0
        create(1) = 1; tick(1) = 207; tick(1) = 0
        """, """
        component(0, 1, 2, 0) = 0; component(1, 4, 0, 3) = 1; start() = 0; call(0, 0, 0) = 20
        call(1, 0, 0) = 21; create(1) = 0; tick(1) = 0; create(1) = 1; call(2, 0, 0) = 21
        tick(4) = 202
        """);
    String all = "component(1, 1, 0, 1) = 0; start() = 0\n"
        + Boundary.counted(0, 23, "create(0) = ?");
    Boundary.holds("Promise 9", sentence,
        all + "tick(50) = 2400; session(0) = 0; session(23) = 0; events() = 71");
  }
}
