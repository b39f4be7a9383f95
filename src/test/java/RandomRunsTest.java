import java.util.Random;

/** Random runs, always the same ones, on which SessionHost and PlainModel answer alike. */
public final class RandomRunsTest {
  private static final int RUNS = 6000;
  /** With the questions of the last look, a run stays within the 512 calls of one object. */
  private static final int CALLS = 250;
  private static final int[] EDGES = {
    Integer.MIN_VALUE, -2, -1, 0, 1, 4, 5, 6, 7, 8, 31, 32, 50, 51, 63, 64, 100, 101,
    Integer.MAX_VALUE
  };

  private final Random random;
  private final String name;
  private final SessionHost host = new SessionHost();
  private final PlainModel model = new PlainModel();
  private boolean wrong = false;

  private RandomRunsTest(int seed) {
    random = new Random(seed);
    name = "run " + seed;
  }

  public static void main(String[] args) {
    for (int seed = 0; seed < RUNS; seed++) {
      RandomRunsTest run = new RandomRunsTest(seed);
      run.furnish();
      run.serve();
      run.look();
    }
    Script.end();
  }

  private int below(int n) {
    return random.nextInt(n);
  }

  /** Mostly a number of 0 .. n - 1, now and then one that may be out of bounds. */
  private int some(int n) {
    return below(40) == 0 ? EDGES[below(EDGES.length)] : below(n);
  }

  private void same(String call, int got, int want) {
    if (!wrong) {
      Script.due(name + ": " + call, "" + got, "" + want);
      wrong = got != want;
    }
  }

  private static int bit(boolean answer) {
    return answer ? 1 : 0;
  }

  private void furnish() {
    int count = 1 + below(9);
    int loved = below(4);
    for (int i = 0; i < count; i++) {
      int kind = loved < 3 && below(2) == 0 ? loved : some(3);
      int size = kind == 2 ? singletonSize() : below(3) == 0 ? some(5) : 1 + below(2);
      int timeout = below(4) == 0 ? -1 : some(below(2) == 0 ? 4 : 20);
      int idle = kind == 1 ? some(below(2) == 0 ? 1 : 30) : below(30) == 0 ? some(2) : 0;
      same("component " + kind + " " + size + " " + timeout + " " + idle,
          host.component(kind, size, timeout, idle), model.component(kind, size, timeout, idle));
    }
    int needs = below(12);
    for (int i = 0; i < needs; i++) {
      int a = some(8);
      int b = some(8);
      same("depends " + a + " " + b, bit(host.depends(a, b)), bit(model.depends(a, b)));
    }
    int marks = below(5);
    for (int i = 0; i < marks; i++) {
      int e = some(8);
      boolean inherited = random.nextBoolean();
      same("application " + e, bit(host.application(e, inherited)),
          bit(model.application(e, inherited)));
    }
    if (below(50) != 0) {
      same("start", host.start(), model.start());
    }
  }

  private int singletonSize() {
    return below(5) == 0 ? some(4) : below(2);
  }

  private void serve() {
    int calls = below(CALLS);
    boolean ends = below(3) != 0;
    for (int i = 0; i < calls && !wrong; i++) {
      if (ends && i == calls * 3 / 4) {
        same("shutdown", host.shutdown(), model.shutdown());
      }
      act(below(100));
      if (i % 8 == 0) {
        same("events", host.events(), model.events());
      }
    }
    same("events", host.events(), model.events());
  }

  private void act(int die) {
    if (die < 40) {
      int caller = some(8);
      int target = aim();
      int mode = some(3);
      same("call " + caller + " " + target + " " + mode, host.call(caller, target, mode),
          model.call(caller, target, mode));
    } else if (die < 68) {
      int caller = some(8);
      int outcome = below(3) == 0 ? some(8) : 0;
      same("finish " + caller + " " + outcome, host.finish(caller, outcome),
          model.finish(caller, outcome));
    } else if (die < 74) {
      int c = some(8);
      same("create " + c, host.create(c), model.create(c));
    } else if (die < 80) {
      int n = below(4) == 0 ? some(51) : some(4);
      same("tick " + n, host.tick(n), model.tick(n));
    } else if (die < 87) {
      int target = aim();
      int mode = some(3);
      boolean wanted = below(3) != 0;
      same("submit " + target + " " + mode, host.submit(target, mode, wanted),
          model.submit(target, mode, wanted));
    } else if (die < 90) {
      int k = some(24);
      same("cancel " + k, host.cancel(k), model.cancel(k));
    } else {
      ask();
    }
  }

  private int aim() {
    return below(3) == 0 ? 8 + below(6) : some(below(3) == 0 ? 32 : 8);
  }

  private void ask() {
    int x = some(32);
    switch (below(10)) {
      case 0 -> same("state " + x, host.state(x), model.state(x));
      case 1 -> same("result " + x, host.result(x), model.result(x));
      case 2 -> same("instance " + x, host.instance(x), model.instance(x));
      case 3 -> same("session " + x, host.session(x), model.session(x));
      case 4 -> same("task " + x, host.task(x), model.task(x));
      case 5 -> same("instances " + x, host.instances(x), model.instances(x));
      case 6 -> same("waiting " + x, host.waiting(x), model.waiting(x));
      case 7 -> same("event " + x, host.event(x), model.event(x));
      case 8 -> same("start", host.start(), model.start());
      default -> same("component", host.component(0, 1, 0, 0), model.component(0, 1, 0, 0));
    }
  }

  private void look() {
    for (int i = 0; i < 8; i++) {
      same("last state " + i, host.state(i), model.state(i));
      same("last result " + i, host.result(i), model.result(i));
      same("last instance " + i, host.instance(i), model.instance(i));
      same("last instances " + i, host.instances(i), model.instances(i));
    }
    for (int i = 0; i < 32; i++) {
      same("last waiting " + i, host.waiting(i), model.waiting(i));
    }
    for (int i = 0; i < 24; i++) {
      same("last session " + i, host.session(i), model.session(i));
      same("last task " + i, host.task(i), model.task(i));
    }
    for (int i = 0; i <= 64; i++) {
      same("last event " + i, host.event(i), model.event(i));
    }
  }
}
