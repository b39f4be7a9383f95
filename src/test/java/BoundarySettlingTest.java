/** Boundary cases of SETTLING, THE END OF A METHOD, END and EVENTS. */
public final class BoundarySettlingTest {
  private static final String TERMS = "Terms";

  public static void main(String[] args) {
    linesOfSessionsThatAreGone();
    lines();
    tasks();
    puttingAway();
    uses();
    endOfAMethod();
    endOfASessionsMethod();
    end();
    endOfPoolsAndSingletons();
    events();
    Script.end();
  }

  private static void linesOfSessionsThatAreGone() {
    String line = "create(0) = 0; call(0, 8, 1) = 20; submit(8, 0, true) = 0\n"
        + "submit(8, 0, false) = 1; submit(8, 0, true) = 2; call(1, 8, 0) = 21\n"
        + "call(2, 8, 0) = 21; call(3, 8, 0) = 21; call(4, 8, 0) = 21; call(5, 8, 2) = 21\n"
        + "waiting(8) = 7\n";
    String gone = "waiting(8) = 0; result(1) = 9; result(2) = 9; result(3) = 9; result(4) = 9\n"
        + "result(5) = 9; result(6) = 9; result(7) = 9; state(1) = 0; state(5) = 0; state(6) = 0\n"
        + "task(0) = 164; task(1) = 4; task(2) = 164\n";
    String home = "component(1, 1, -1, 0) = 0; start() = 0\n";
    Boundary.holds(TERMS, "the waiting callers of a session that is gone all leave the line and"
        + " get NOSUCH, in the order of the line",
        home + line + "finish(0, 0) = 0\n" + gone, home + line + "finish(0, 1) = 8\n" + gone,
        home + "create(0) = 0; call(0, 8, 1) = 20; call(1, 8, 0) = 21; finish(0, 0) = 0\n"
            + "result(1) = 9; state(1) = 0; waiting(8) = 0",
        home + "create(0) = 0; call(0, 8, 1) = 20; finish(0, 0) = 0; waiting(8) = 0\n"
            + "result(1) = -1");
  }

  private static void lines() {
    Boundary.holds(TERMS, "The lines, by ascending target", """
        component(2, 1, 1, 0) = 0; component(2, 1, 1, 0) = 1; component(2, 1, 1, 0) = 2
        start() = 3; call(0, 0, 0) = 20; call(0, 2, 0) = 20; call(0, 1, 0) = 20
        call(4, 2, 1) = 21; call(5, 0, 1) = 21; submit(1, 1, true) = 0; tick(0) = 0
        news: created 0, created 1, created 2, entered 0 by 0, entered 2 by 0, entered 1 by 0
        tick(1) = 3; news: none
        """, """
        component(2, 1, 2, 0) = 0; component(2, 1, 2, 0) = 1; component(2, 1, 2, 0) = 2
        start() = 3; call(0, 0, 0) = 20; call(0, 2, 0) = 20; call(0, 1, 0) = 20
        call(4, 2, 1) = 21; call(5, 0, 1) = 21; submit(1, 1, true) = 0; tick(1) = 0
        call(1, 2, 0) = 21; call(2, 1, 0) = 21; call(3, 0, 0) = 21
        news: created 0, created 1, created 2, entered 0 by 0, entered 2 by 0, entered 1 by 0
        tick(1) = 3; news: entered 0 by 3, entered 1 by 2, entered 2 by 1
        """);
    String sentence = "otherwise, while the first in the line could enter if it called now and"
        + " were not in the line, nor any other, it leaves the line and enters";
    Boundary.holds(TERMS, sentence, """
        component(0, 2, -1, 0) = 0; start() = 0; call(0, 0, 0) = 20; call(1, 0, 0) = 20
        call(2, 0, 0) = 21; call(3, 0, 0) = 21; finish(0, 0) = 0; state(2) = 1; state(3) = 8
        waiting(0) = 1; finish(1, 1) = 8; state(3) = 1; waiting(0) = 0; finish(2, 0) = 0
        news: created 0, entered 0 by 0, created 1, entered 1 by 1, left 0 by 0, entered 0 by 2,\
         left 1 by 1, discarded 1, created 2, entered 2 by 3, left 0 by 2
        """, """
        component(1, 1, -1, 0) = 0; start() = 0; create(0) = 0; call(0, 8, 0) = 20
        call(2, 8, 0) = 21; call(1, 8, 0) = 21; finish(0, 0) = 0; state(2) = 1; state(1) = 8
        finish(2, 0) = 0; state(1) = 1; waiting(8) = 0; finish(1, 0) = 0; session(0) = 1
        """, """
        component(2, 1, -1, 0) = 0; start() = 1; call(0, 0, 0) = 20; call(1, 0, 1) = 21
        call(2, 0, 0) = 21; call(3, 0, 0) = 21; call(0, 0, 0) = 20; waiting(0) = 3
        finish(0, 0) = 0; waiting(0) = 3; finish(0, 0) = 0; state(1) = 1; waiting(0) = 2
        finish(1, 0) = 0; state(2) = 1; state(3) = 1; waiting(0) = 0
        """, """
        component(2, 1, -1, 0) = 0; start() = 1; call(0, 0, 1) = 20; call(1, 0, 0) = 21
        call(2, 0, 0) = 21; call(3, 0, 1) = 21; call(4, 0, 0) = 21; call(5, 0, 1) = 21
        finish(0, 0) = 0; state(1) = 1; state(2) = 1; state(3) = 8; state(4) = 8
        finish(2, 0) = 0; state(3) = 8; finish(1, 0) = 0; state(3) = 1; state(4) = 8
        finish(3, 0) = 0; state(4) = 1; state(5) = 8; finish(4, 0) = 0; state(5) = 1
        """, """
        component(2, 1, -1, 0) = 0; start() = 1; call(0, 0, 1) = 20; call(5, 0, 0) = 21
        call(4, 0, 0) = 21; call(3, 0, 0) = 21; call(2, 0, 0) = 21; call(1, 0, 0) = 21
        submit(0, 0, true) = 0; submit(0, 0, true) = 1; waiting(0) = 7; finish(0, 0) = 0
        waiting(0) = 0; news: created 0, entered 0 by 0, left 0 by 0, entered 0 by 5,\
         entered 0 by 4, entered 0 by 3, entered 0 by 2, entered 0 by 1, entered 0 by 6,\
         entered 0 by 7
        """);
  }

  private static void tasks() {
    String sentence = "While a worker has no task and a task is waiting, the worker (6 before 7)"
        + " takes the waiting task of least number and makes the call of its target with its mode";
    Boundary.holds(TERMS, sentence, """
        component(2, 1, 0, 0) = 0; start() = 1; submit(0, 0, true) = 0; state(6) = 1
        state(7) = 0; submit(0, 0, true) = 1; state(7) = 1; submit(0, 0, true) = 2
        submit(0, 0, true) = 3; task(2) = 1; task(3) = 1; finish(7, 0) = 0; task(2) = 2
        task(3) = 1; finish(7, 0) = 0; task(3) = 2; finish(7, 0) = 0; state(7) = 0
        finish(6, 0) = 0; state(6) = 0; submit(0, 0, true) = 4; state(6) = 1; state(7) = 0
        """, """
        component(2, 1, 0, 0) = 0; component(0, 1, 1, 0) = 1; start() = 1; call(0, 1, 0) = 20
        submit(1, 0, true) = 0; submit(1, 0, true) = 1; submit(0, 0, true) = 2
        submit(0, 0, true) = 3; submit(0, 0, true) = 4; cancel(2) = 1; tick(1) = 2
        task(2) = 3; task(3) = 2; task(4) = 2; news: created 0, created 1, entered 1 by 0,\
         entered 0 by 6, entered 0 by 7
        """, """
        component(1, 2, 0, 0) = 0; component(2, 1, 0, 0) = 1; start() = 1; create(0) = 0
        create(0) = 1; submit(8, 1, true) = 0; submit(9, 2, true) = 1; session(0) = 2
        session(1) = 2; finish(6, 0) = 0; finish(7, 0) = 0; session(0) = 0; session(1) = 0
        submit(1, 1, true) = 2; call(0, 1, 0) = 11
        """);
    Boundary.holds(TERMS, sentence, "component(2, 1, 0, 0) = 0; component(0, 1, 0, 0) = 1\n"
        + "start() = 1; call(0, 1, 0) = 20; submit(0, 0, true) = 0; submit(0, 0, true) = 1\n"
        + Boundary.counted(2, 23, "submit(1, 0, true) = ?; task(?) = 1")
        + "finish(6, 0) = 0; state(6) = 0; result(6) = 11\n"
        + Boundary.counted(2, 23, "task(?) = 196") + "task(1) = 2");
  }

  private static void puttingAway() {
    String sentence = "while more than size of its sessions are in memory, and one of those in"
        + " memory is not in use, the one of these whose latest use lies furthest back is put away:"
        + " event PUTAWAY";
    Boundary.holds(TERMS, sentence, """
        component(1, 2, 0, 0) = 0; start() = 0; create(0) = 0; create(0) = 1
        news: created 0, created 1; create(0) = 2; news: created 2, putaway 0
        session(0) = 3; session(1) = 1; session(2) = 1
        """, """
        component(1, 1, 0, 0) = 0; start() = 0; create(0) = 0; call(0, 8, 0) = 20
        create(0) = 1; session(1) = 3; call(1, 9, 0) = 20; instances(0) = 2; session(0) = 2
        session(1) = 2; finish(1, 0) = 0; session(1) = 3; instances(0) = 1; finish(0, 0) = 0
        session(0) = 1; instances(0) = 1
        """, """
        component(1, 2, 0, 0) = 0; component(0, 1, 1, 0) = 1; start() = 0; create(0) = 0
        create(0) = 1; create(0) = 2; create(0) = 3; call(0, 1, 0) = 20
        submit(1, 0, true) = 0; submit(1, 0, true) = 1; submit(9, 0, true) = 2
        submit(8, 0, true) = 3; news: created 0, created 1, created 2, putaway 0, created 3,\
         putaway 1, created 4, entered 4 by 0
        tick(1) = 2; news: activated 1, entered 1 by 6, activated 0, entered 0 by 7, putaway 2,\
         putaway 3
        instances(0) = 2
        """, """
        component(1, 1, 0, 0) = 0; start() = 0; create(0) = 0; call(0, 8, 0) = 20; create(0) = 1
        call(1, 9, 0) = 20; create(0) = 2; call(2, 10, 0) = 20; instances(0) = 3
        finish(0, 1) = 8; session(0) = 0; session(1) = 2; session(2) = 2; instances(0) = 2
        """);
    Boundary.holds(TERMS, "For each stateful component, by ascending number", """
        component(1, 1, 0, 0) = 0; component(0, 1, 1, 0) = 1; component(1, 1, 0, 0) = 2
        start() = 0; create(2) = 0; create(2) = 1; create(0) = 2; create(0) = 3
        call(0, 1, 0) = 20; submit(1, 0, true) = 0; submit(1, 0, true) = 1
        submit(8, 0, true) = 2; submit(10, 0, true) = 3
        news: created 0, created 1, putaway 0, created 2, created 3, putaway 2, created 4,\
         entered 4 by 0
        tick(1) = 2; news: activated 0, entered 0 by 6, activated 2, entered 2 by 7, putaway 3,\
         putaway 1
        """);
  }

  private static void uses() {
    Boundary.holds(TERMS, "A session is used when it is made and when a method in it ends", """
        component(1, 2, 0, 0) = 0; start() = 0; create(0) = 0; create(0) = 1
        call(0, 8, 0) = 20; finish(0, 0) = 0; create(0) = 2; session(0) = 1; session(1) = 3
        """, """
        component(1, 2, 0, 0) = 0; application(1, true) = true; start() = 0; create(0) = 0
        create(0) = 1; call(0, 8, 2) = 20; finish(0, 1) = 1; create(0) = 2; session(0) = 1
        session(1) = 3
        """, """
        component(1, 2, 0, 0) = 0; start() = 0; create(0) = 0; create(0) = 1
        call(0, 9, 0) = 20; call(1, 8, 0) = 20; finish(1, 0) = 0; finish(0, 0) = 0
        create(0) = 2; session(0) = 3; session(1) = 1
        """, """
        component(1, 4, 0, 5) = 0; start() = 0; create(0) = 0; tick(4) = 0; call(0, 8, 0) = 20
        tick(3) = 0; finish(0, 0) = 0; tick(4) = 0; session(0) = 1; tick(1) = 100
        """);
    Boundary.holds(TERMS, "Uses follow one another in the order in which they happen", """
        component(1, 3, 0, 0) = 0; start() = 0; create(0) = 0; create(0) = 1; create(0) = 2
        call(0, 9, 0) = 20; call(1, 8, 0) = 20; finish(0, 0) = 0; finish(1, 0) = 0
        create(0) = 3; session(2) = 3; create(0) = 4; session(1) = 3; create(0) = 5
        session(0) = 3; session(3) = 1; session(4) = 1; session(5) = 1
        """);
  }

  private static void endOfAMethod() {
    Boundary.holds(TERMS, "event LEFT; the caller is then in the method that it was in before, if"
        + " any", """
        component(0, 4, 0, 0) = 0; start() = 0; call(3, 0, 0) = 20; call(3, 0, 0) = 20
        finish(3, 0) = 0; state(3) = 1; instance(3) = 0; finish(3, 0) = 0; state(3) = 0
        instance(3) = -1; finish(3, 0) = -1
        news: created 0, entered 0 by 3, created 1, entered 1 by 3, left 1 by 3, left 0 by 3
        """);
    Boundary.holds(TERMS, "A stateless instance is not in use any more; but with a system"
        + " exception it is discarded (event DISCARDED), and the pool has one fewer", """
        component(0, 1, 0, 0) = 0; application(1, false) = true; start() = 0; call(0, 0, 0) = 20
        finish(0, 0) = 0; instances(0) = 1; call(1, 0, 0) = 20; instance(1) = 0
        finish(1, 1) = 1; instances(0) = 1; call(2, 0, 0) = 20; instance(2) = 0
        finish(2, 2) = 8; instances(0) = 0; call(3, 0, 0) = 20; instance(3) = 1
        news: created 0, entered 0 by 0, left 0 by 0, entered 0 by 1, left 0 by 1,\
         entered 0 by 2, left 0 by 2, discarded 0, created 1, entered 1 by 3
        """, """
        component(0, 4, 0, 0) = 0; start() = 0; call(0, 0, 0) = 20; call(1, 0, 0) = 20
        call(2, 0, 0) = 20; call(3, 0, 0) = 20; finish(0, 1) = 8; instances(0) = 3
        finish(1, 1) = 8; instances(0) = 2; finish(2, 1) = 8; instances(0) = 1
        finish(3, 1) = 8; instances(0) = 0
        """);
    Boundary.holds(TERMS, "A singleton stays whatever the outcome", """
        component(2, 0, 0, 0) = 0; application(2, true) = true; start() = 0
        call(0, 0, 1) = 20; finish(0, 0) = 0; call(0, 0, 1) = 20; finish(0, 2) = 2
        call(0, 0, 1) = 20; finish(0, 1) = 8; instances(0) = 1; call(0, 0, 1) = 20
        instance(0) = 0; events() = 8
        """);
    Boundary.holds(TERMS, "Then the caller gets the result: 0; the type of an application"
        + " exception; SYSTEM for a system exception", """
        component(2, 0, 0, 0) = 0; application(7, false) = true; application(1, false) = true
        start() = 0; call(0, 0, 0) = 20; finish(0, 0) = 0; result(0) = 0; call(0, 0, 0) = 20
        finish(0, 1) = 1; result(0) = 1; call(0, 0, 0) = 20; finish(0, 7) = 7; result(0) = 7
        call(0, 0, 0) = 20; finish(0, 2) = 8; result(0) = 8; call(0, 0, 0) = 20
        finish(0, 6) = 8; result(0) = 8
        """);
  }

  private static void endOfASessionsMethod() {
    Boundary.holds(TERMS, "A session, with a system exception: gone, event DISCARDED",
        session(0, "finish(0, 2) = 8; session(0) = 0; news: left 0 by 0, discarded 0"),
        session(1, "finish(0, 2) = 8; session(0) = 0; news: left 0 by 0, discarded 0"),
        session(2, "finish(0, 2) = 8; session(0) = 0; news: left 0 by 0, discarded 0"));
    Boundary.holds(TERMS, "Else, if the mode was REMOVING, or was REMOVING WHEN WELL and the"
        + " outcome is 0: gone, event DESTROYED",
        session(1, "finish(0, 0) = 0; session(0) = 0; news: left 0 by 0, destroyed 0"),
        session(1, "finish(0, 1) = 1; session(0) = 0; news: left 0 by 0, destroyed 0"),
        session(2, "finish(0, 0) = 0; session(0) = 0; news: left 0 by 0, destroyed 0"));
    Boundary.holds(TERMS, "Else it stays",
        session(0, "finish(0, 0) = 0; session(0) = 1; news: left 0 by 0"),
        session(0, "finish(0, 1) = 1; session(0) = 1; news: left 0 by 0"),
        session(2, "finish(0, 1) = 1; session(0) = 1; news: left 0 by 0"));
  }

  /** A caller in a session with a mode; of the exceptions, only type 1 is of the application. */
  private static String session(int mode, String rows) {
    return "component(1, 1, 0, 0) = 0; application(1, false) = true; start() = 0; create(0) = 0\n"
        + "call(0, 8, " + mode + ") = 20; news: created 0, entered 0 by 0\n" + rows;
  }

  private static void end() {
    Boundary.holds(TERMS, "each session that is not gone, by ascending number, is gone: event"
        + " DESTROYED if it was in memory, DROPPED if it was put away", """
        component(1, 1, 0, 0) = 0; component(1, 2, 0, 0) = 1; start() = 0; create(1) = 0
        create(0) = 1; create(0) = 2; create(0) = 3; create(1) = 4; call(0, 11, 1) = 20
        finish(0, 0) = 0; session(0) = 1; session(1) = 3; session(2) = 3; session(3) = 0
        session(4) = 1; news: created 0, created 1, created 2, putaway 1, created 3, putaway 2,\
         created 4, entered 3 by 0, left 3 by 0, destroyed 3
        shutdown() = 0; news: destroyed 0, dropped 1, dropped 2, destroyed 4
        session(0) = 0; session(1) = 0; session(3) = 0; session(4) = 0; instances(0) = 0
        instances(1) = 0
        """, """
        component(1, 1, 0, 0) = 0; start() = 0; create(0) = 0; call(0, 8, 1) = 20
        shutdown() = 0; news: created 0, entered 0 by 0
        finish(0, 0) = 0; news: left 0 by 0, destroyed 0
        """, "component(1, 4, 0, 0) = 0; start() = 0\n" + Boundary.counted(0, 23, "create(0) = ?")
            + "session(19) = 3; session(20) = 1; events() = 44; shutdown() = 0; events() = 68\n"
            + "event(0) = 5890; event(3) = 5122; event(4) = 4870; event(23) = 6\n"
            + Boundary.counted(0, 23, "session(?) = 0"));
    Boundary.holds(TERMS, "END, in this order", """
        component(2, 1, 0, 0) = 0; component(0, 1, 0, 0) = 1; component(1, 1, 0, 0) = 2
        start() = 1; call(0, 1, 0) = 20; create(2) = 0; finish(0, 0) = 0
        news: created 0, created 1, entered 1 by 0, created 2, left 1 by 0
        shutdown() = 0; news: destroyed 2, destroyed 1, destroyed 0
        """, "start() = 0; shutdown() = 0; events() = 0");
  }

  private static void endOfPoolsAndSingletons() {
    Boundary.holds(TERMS, "The stateless instances, by ascending component, then by ascending"
        + " instance: DESTROYED", """
        component(0, 4, 0, 0) = 0; component(0, 4, 0, 0) = 1; start() = 0; call(0, 1, 0) = 20
        call(0, 0, 0) = 20; call(0, 1, 0) = 20; call(0, 0, 0) = 20; call(1, 0, 0) = 20
        call(1, 0, 0) = 20; finish(1, 0) = 0; finish(0, 0) = 0; finish(0, 0) = 0
        finish(0, 1) = 8; finish(0, 0) = 0; finish(1, 0) = 0; events() = 19; instances(0) = 3
        instances(1) = 2; news: created 0, entered 0 by 0, created 1, entered 1 by 0, created 2,\
         entered 2 by 0, created 3, entered 3 by 0, created 4, entered 4 by 1, created 5,\
         entered 5 by 1, left 5 by 1, left 3 by 0, left 2 by 0, left 1 by 0, discarded 1,\
         left 0 by 0, left 4 by 1
        shutdown() = 0; news: destroyed 3, destroyed 4, destroyed 5, destroyed 0, destroyed 2
        """, """
        component(0, 4, 0, 0) = 0; start() = 0; call(0, 0, 0) = 20; call(1, 0, 0) = 20
        call(2, 0, 0) = 20; call(3, 0, 0) = 20; finish(1, 0) = 0; finish(3, 0) = 0
        finish(0, 0) = 0; finish(2, 0) = 0; events() = 12; shutdown() = 0; events() = 16
        event(3) = 2; event(2) = 258; event(1) = 514; event(0) = 770
        """, """
        component(0, 1, 0, 0) = 0; start() = 0; call(0, 0, 0) = 20; finish(0, 1) = 8
        events() = 4; shutdown() = 0; events() = 4
        """);
    Boundary.holds(TERMS, "The singletons that have begun, the latest begun first: DESTROYED", """
        component(2, 0, 0, 0) = 0; component(2, 1, 0, 0) = 1; component(2, 3, 0, 0) = 2
        component(2, 0, 0, 0) = 3; component(2, 0, 0, 0) = 4; depends(1, 4) = true
        start() = 2; call(0, 0, 0) = 20; finish(0, 0) = 0
        news: created 0, created 1, created 2, entered 2 by 0, left 2 by 0
        shutdown() = 0; news: destroyed 2, destroyed 1, destroyed 0
        """, """
        component(2, 0, 0, 0) = 0; component(2, 3, 0, 0) = 1; start() = 0; shutdown() = 0
        events() = 0
        """, Boundary.counted(0, 7, "component(2, 1, 0, 0) = ?") + "start() = 8; shutdown() = 0\n"
            + "events() = 16; event(7) = 1794; event(1) = 258; event(0) = 2");
    Boundary.holds(TERMS, "Pools are empty then, and no singleton has an instance", """
        component(0, 4, 0, 0) = 0; component(2, 1, 0, 0) = 1; component(2, 0, 0, 0) = 2
        start() = 1; call(0, 0, 0) = 20; call(0, 0, 0) = 20; shutdown() = 0; instances(0) = 2
        finish(0, 0) = 0; instances(0) = 2; instances(1) = 1; finish(0, 0) = 0
        instances(0) = 0; instances(1) = 0; instances(2) = 0
        """);
  }

  private static void events() {
    Boundary.holds(TERMS, "EVENTS are numbers: kind + 16 * who + 256 * instance. Kinds: 1 CREATED,"
        + " 2 DESTROYED, 3 DISCARDED, 4 PUTAWAY, 5 ACTIVATED, 6 DROPPED, 7 ENTERED, 8 LEFT", """
        component(1, 1, 0, 0) = 0; component(2, 0, 0, 0) = 1; start() = 0; create(0) = 0
        event(0) = 1; create(0) = 1; event(0) = 4; event(1) = 257; call(0, 8, 0) = 20
        event(0) = 260; event(1) = 23; event(2) = 5; call(5, 9, 0) = 20; event(0) = 359
        event(1) = 261; finish(5, 1) = 8; event(0) = 259; event(1) = 360; finish(0, 0) = 0
        event(0) = 24; create(0) = 2; event(1) = 513; event(0) = 4; shutdown() = 0
        event(0) = 514; event(1) = 6; events() = 15
        """);
    Boundary.holds(TERMS, "who is the caller + 1 for ENTERED and LEFT, 0 for the others", """
        component(2, 0, 0, 0) = 0; start() = 0; call(0, 0, 0) = 20; event(1) = 1; event(0) = 23
        finish(0, 0) = 0; event(0) = 24; call(5, 0, 0) = 20; event(0) = 103; finish(5, 0) = 0
        event(0) = 104; submit(0, 0, true) = 0; event(0) = 119
        submit(0, 0, true) = 1; event(0) = 135; finish(7, 0) = 0; event(0) = 136
        finish(6, 0) = 0; event(0) = 120; shutdown() = 0; event(0) = 2
        """);
  }
}
