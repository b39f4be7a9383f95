import java.util.ArrayList;
import java.util.HashMap;
import java.util.HashSet;
import java.util.LinkedHashMap;
import java.util.List;
import java.util.Map;
import java.util.Set;

/**
 * A second reading of the document, kept as facts that are searched anew for every question, so
 * that it shares no bookkeeping with SessionHost. Random runs are compared with it.
 */
final class PlainModel {
  private enum Phase { FURNISHED, RUNNING, STOPPING, ENDED }

  private enum Place { GONE, MEMORY, AWAY }

  private enum Stage { NONE, WAITING, TAKEN, CANCELLED, DONE }

  private record Component(int kind, int size, int timeout, int idle) {}

  private record Need(int a, int b) {}

  private record Method(int caller, int target, int instance, int mode) {}

  private record Wait(int target, int mode, int since) {}

  private static final class Session {
    int component;
    int instance;
    Place place = Place.MEMORY;
    int useOrder;
    int useTime;
  }

  private static final class Task {
    int target;
    int mode;
    boolean wanted;
    Stage stage = Stage.WAITING;
    boolean noted;
    int result;
  }

  private Phase phase = Phase.FURNISHED;
  private int clock = 0;
  private int uses = 0;
  private int instancesMade = 0;
  private final List<Component> components = new ArrayList<>();
  private final List<Need> needs = new ArrayList<>();
  private final Map<Integer, Boolean> marks = new HashMap<>();
  private final List<Integer> log = new ArrayList<>();
  private final List<Method> methods = new ArrayList<>();
  private final Map<Integer, Wait> waits = new LinkedHashMap<>();
  private final Map<Integer, Integer> results = new HashMap<>();
  /** The instances of a pool that are not in use, in the order in which they came back. */
  private final Map<Integer, List<Integer>> rested = new HashMap<>();
  private final Map<Integer, Integer> begun = new LinkedHashMap<>();
  private final Set<Integer> failed = new HashSet<>();
  private final List<Session> sessions = new ArrayList<>();
  private final List<Task> tasks = new ArrayList<>();
  private final Map<Integer, Task> work = new HashMap<>();

  int component(int kind, int size, int timeout, int idle) {
    boolean fits = switch (kind) {
      case 0 -> within(size, 1, 4) && idle == 0;
      case 1 -> within(size, 1, 4) && within(idle, 0, 100);
      case 2 -> within(size, 0, 3) && idle == 0;
      default -> false;
    };
    if (phase != Phase.FURNISHED || components.size() == 8 || !fits || !within(timeout, -1, 100)) {
      return -1;
    }
    components.add(new Component(kind, size, timeout, idle));
    return components.size() - 1;
  }

  boolean depends(int a, int b) {
    boolean possible = phase == Phase.FURNISHED && kindOf(a) == 2 && kindOf(b) == 2 && a != b;
    if (!possible || needs.contains(new Need(a, b)) || neededBy(b).contains(a)) {
      return false;
    }
    return needs.add(new Need(a, b));
  }

  boolean application(int e, boolean inherited) {
    if (phase != Phase.FURNISHED || !within(e, 1, 7)) {
      return false;
    }
    return marks.putIfAbsent(e, inherited) == null;
  }

  int start() {
    if (phase != Phase.FURNISHED) {
      return -1;
    }
    phase = Phase.RUNNING;
    for (int c = 0; c < components.size(); c++) {
      if (kindOf(c) == 2 && components.get(c).size() % 2 == 1) {
        begin(c);
      }
    }
    return begun.size();
  }

  int create(int c) {
    if (phase != Phase.RUNNING || kindOf(c) != 1 || sessions.size() == 24) {
      return -1;
    }
    Session made = new Session();
    made.component = c;
    made.instance = makeInstance();
    sessions.add(made);
    use(made);
    settle();
    return sessions.size() - 1;
  }

  int call(int caller, int target, int mode) {
    if (phase != Phase.RUNNING || !within(caller, 0, 7) || waits.containsKey(caller)) {
      return -1;
    }
    int depth = stack(caller).size();
    if (depth == 4 || (caller >= 6 && depth == 0) || !within(mode, 0, lastMode(target))) {
      return -1;
    }
    int answer = makeCall(caller, target, mode);
    settle();
    return answer;
  }

  int finish(int caller, int outcome) {
    List<Method> stack = stack(caller);
    if (stack.isEmpty() || waits.containsKey(caller) || !within(outcome, 0, 7)) {
      return -1;
    }
    Method method = stack.get(stack.size() - 1);
    methods.remove(methods.lastIndexOf(method));
    note(8, caller + 1, method.instance());
    boolean system = outcome != 0 && !isApplication(outcome);
    release(method, outcome, system);
    int answer = system ? 8 : outcome;
    get(caller, answer);
    if (phase == Phase.RUNNING) {
      settle();
    } else if (methods.isEmpty()) {
      end();
    }
    return answer;
  }

  int tick(int n) {
    if (phase != Phase.RUNNING || !within(n, 0, 50)) {
      return -1;
    }
    int answer = 0;
    for (int i = 0; i < n; i++) {
      clock++;
      for (int caller = 0; caller < 8; caller++) {
        Wait wait = waits.get(caller);
        if (wait != null && timeout(wait.target()) != -1
            && clock - wait.since() >= timeout(wait.target())) {
          waits.remove(caller);
          get(caller, 10);
          answer++;
        }
      }
      settle();
      for (int s = 0; s < sessions.size(); s++) {
        int limit = components.get(sessions.get(s).component).idle();
        boolean rests = sessions.get(s).place != Place.GONE && users(8 + s).isEmpty();
        if (rests && limit != 0 && clock - sessions.get(s).useTime >= limit) {
          retire(sessions.get(s));
          answer += 100;
        }
      }
    }
    return answer;
  }

  int submit(int target, int mode, boolean wanted) {
    if (phase != Phase.RUNNING || tasks.size() == 24 || !within(mode, 0, lastMode(target))) {
      return -1;
    }
    Task task = new Task();
    task.target = target;
    task.mode = mode;
    task.wanted = wanted;
    tasks.add(task);
    settle();
    return tasks.size() - 1;
  }

  int cancel(int k) {
    Stage stage = within(k, 0, tasks.size() - 1) ? tasks.get(k).stage : Stage.NONE;
    switch (stage) {
      case WAITING:
        tasks.get(k).stage = Stage.CANCELLED;
        return 1;
      case TAKEN:
        tasks.get(k).noted = true;
        return 2;
      default:
        return 0;
    }
  }

  int shutdown() {
    if (phase != Phase.RUNNING) {
      return -1;
    }
    for (Task task : tasks) {
      task.stage = task.stage == Stage.WAITING ? Stage.CANCELLED : task.stage;
    }
    int stopped = 0;
    for (int caller = 0; caller < 8; caller++) {
      if (waits.remove(caller) != null) {
        get(caller, 13);
        stopped++;
      }
    }
    phase = Phase.STOPPING;
    if (methods.isEmpty()) {
      end();
    }
    return stopped;
  }

  int state(int caller) {
    if (!within(caller, 0, 7)) {
      return -1;
    }
    return stack(caller).size() + (waits.containsKey(caller) ? 8 : 0);
  }

  int result(int caller) {
    return results.getOrDefault(caller, -1);
  }

  int instance(int caller) {
    List<Method> stack = stack(caller);
    return stack.isEmpty() ? -1 : stack.get(stack.size() - 1).instance();
  }

  int session(int s) {
    if (!within(s, 0, sessions.size() - 1)) {
      return 0;
    }
    return switch (sessions.get(s).place) {
      case GONE -> 0;
      case AWAY -> 3;
      case MEMORY -> users(8 + s).isEmpty() ? 1 : 2;
    };
  }

  int task(int k) {
    if (!within(k, 0, tasks.size() - 1)) {
      return 0;
    }
    Task task = tasks.get(k);
    boolean told = task.stage == Stage.DONE && task.wanted;
    return task.stage.ordinal() + (task.noted ? 8 : 0) + (told ? 16 * (task.result + 1) : 0);
  }

  int instances(int c) {
    return switch (kindOf(c)) {
      case 0 -> phase == Phase.ENDED ? 0 : poolSize(c);
      case 1 -> inMemory(c).size();
      case 2 -> begun.containsKey(c) && phase != Phase.ENDED ? 1 : 0;
      default -> -1;
    };
  }

  int waiting(int target) {
    return lastMode(target) < 0 ? -1 : line(target).size();
  }

  int events() {
    return log.size();
  }

  int event(int k) {
    return within(k, 0, Math.min(63, log.size() - 1)) ? log.get(log.size() - 1 - k) : -1;
  }

  private static boolean within(int x, int low, int high) {
    return x >= low && x <= high;
  }

  private int kindOf(int c) {
    return within(c, 0, components.size() - 1) ? components.get(c).kind() : -1;
  }

  /** The greatest mode of a target; -1 if there is no such target. */
  private int lastMode(int target) {
    if (target >= 8) {
      return target - 8 < sessions.size() ? 2 : -1;
    }
    return switch (kindOf(target)) {
      case 0 -> 0;
      case 2 -> 1;
      default -> -1;
    };
  }

  private int timeout(int target) {
    return components.get(target < 8 ? target : sessions.get(target - 8).component).timeout();
  }

  private Set<Integer> neededBy(int a) {
    Set<Integer> found = new HashSet<>();
    found.add(a);
    for (int i = 0; i < 8; i++) {
      for (Need need : needs) {
        if (found.contains(need.a())) {
          found.add(need.b());
        }
      }
    }
    return found;
  }

  private boolean isApplication(int e) {
    if (marks.containsKey(e)) {
      return true;
    }
    int nearest = e / 2;
    while (nearest > 0 && !marks.containsKey(nearest)) {
      nearest /= 2;
    }
    return nearest > 0 && marks.get(nearest);
  }

  private void note(int kind, int who, int instance) {
    log.add(kind + 16 * who + 256 * instance);
  }

  private int makeInstance() {
    note(1, 0, instancesMade);
    return instancesMade++;
  }

  private void use(Session session) {
    session.useOrder = uses++;
    session.useTime = clock;
  }

  private List<Method> stack(int caller) {
    return methods.stream().filter(m -> m.caller() == caller).toList();
  }

  private List<Method> users(int target) {
    return methods.stream().filter(m -> m.target() == target).toList();
  }

  private List<Integer> line(int target) {
    return waits.keySet().stream().filter(c -> waits.get(c).target() == target).toList();
  }

  private List<Session> inMemory(int c) {
    return sessions.stream().filter(s -> s.component == c && s.place == Place.MEMORY).toList();
  }

  private List<Integer> resting(int c) {
    return rested.computeIfAbsent(c, x -> new ArrayList<>());
  }

  private int poolSize(int c) {
    return users(c).size() + resting(c).size();
  }

  private void begin(int c) {
    if (begun.containsKey(c) || failed.contains(c)) {
      return;
    }
    for (Need need : needs) {
      if (need.a() == c) {
        begin(need.b());
        if (failed.contains(need.b())) {
          failed.add(c);
          return;
        }
      }
    }
    if (components.get(c).size() >= 2) {
      failed.add(c);
    } else {
      begun.put(c, makeInstance());
    }
  }

  private int makeCall(int caller, int target, int mode) {
    int verdict = verdict(caller, target, mode, line(target).isEmpty());
    if (verdict == 20) {
      enter(caller, target, mode);
      return 20;
    }
    if (verdict == 21 && timeout(target) != 0) {
      waits.put(caller, new Wait(target, mode, clock));
      return 21;
    }
    get(caller, verdict == 21 ? 11 : verdict);
    return results.get(caller);
  }

  private int verdict(int caller, int target, int mode, boolean emptyLine) {
    List<Method> users = users(target);
    List<Method> own = users.stream().filter(m -> m.caller() == caller).toList();
    if (target >= 8) {
      if (sessions.get(target - 8).place == Place.GONE) {
        return 9;
      }
      return !own.isEmpty() ? 12 : users.isEmpty() ? 20 : 21;
    }
    if (kindOf(target) == 0) {
      boolean room = users.size() < components.get(target).size();
      return emptyLine && room ? 20 : 21;
    }
    begin(target);
    if (failed.contains(target)) {
      return 9;
    }
    if (!own.isEmpty()) {
      return mode == 0 || own.stream().anyMatch(m -> m.mode() == 1) ? 20 : 12;
    }
    boolean written = users.stream().anyMatch(m -> m.mode() == 1);
    return emptyLine && !written && (mode == 0 || users.isEmpty()) ? 20 : 21;
  }

  private void enter(int caller, int target, int mode) {
    int instance;
    if (target >= 8) {
      Session session = sessions.get(target - 8);
      instance = session.instance;
      if (session.place == Place.AWAY) {
        session.place = Place.MEMORY;
        note(5, 0, instance);
      }
    } else if (kindOf(target) == 0) {
      List<Integer> resting = resting(target);
      instance = resting.isEmpty() ? makeInstance() : resting.remove(resting.size() - 1);
    } else {
      instance = begun.get(target);
    }
    methods.add(new Method(caller, target, instance, mode));
    note(7, caller + 1, instance);
  }

  private void release(Method method, int outcome, boolean system) {
    int target = method.target();
    if (target >= 8) {
      Session session = sessions.get(target - 8);
      use(session);
      boolean removed = method.mode() == 1 || (method.mode() == 2 && outcome == 0);
      if (system || removed) {
        session.place = Place.GONE;
        note(system ? 3 : 2, 0, method.instance());
      }
    } else if (kindOf(target) == 0 && system) {
      note(3, 0, method.instance());
    } else if (kindOf(target) == 0) {
      resting(target).add(method.instance());
    }
  }

  private void get(int caller, int result) {
    results.put(caller, result);
    if (work.containsKey(caller) && stack(caller).isEmpty()) {
      Task task = work.remove(caller);
      task.stage = Stage.DONE;
      task.result = result;
    }
  }

  private void settle() {
    for (int target = 0; target < 32; target++) {
      settleLine(target);
    }
    while (freeWorker() != -1 && firstWaitingTask() != null) {
      Task task = firstWaitingTask();
      int worker = freeWorker();
      task.stage = Stage.TAKEN;
      work.put(worker, task);
      makeCall(worker, task.target, task.mode);
    }
    for (int c = 0; c < components.size(); c++) {
      while (kindOf(c) == 1 && inMemory(c).size() > components.get(c).size()) {
        Session oldest = null;
        for (Session session : inMemory(c)) {
          boolean free = users(8 + sessions.indexOf(session)).isEmpty();
          if (free && (oldest == null || session.useOrder < oldest.useOrder)) {
            oldest = session;
          }
        }
        if (oldest == null) {
          break;
        }
        oldest.place = Place.AWAY;
        note(4, 0, oldest.instance);
      }
    }
  }

  private void settleLine(int target) {
    boolean gone = target >= 8 && target - 8 < sessions.size()
        && sessions.get(target - 8).place == Place.GONE;
    for (int caller : line(target)) {
      Wait wait = waits.get(caller);
      if (gone) {
        waits.remove(caller);
        get(caller, 9);
      } else if (verdict(caller, target, wait.mode(), true) == 20) {
        waits.remove(caller);
        enter(caller, target, wait.mode());
      } else {
        return;
      }
    }
  }

  private int freeWorker() {
    return !work.containsKey(6) ? 6 : !work.containsKey(7) ? 7 : -1;
  }

  private Task firstWaitingTask() {
    return tasks.stream().filter(t -> t.stage == Stage.WAITING).findFirst().orElse(null);
  }

  private void retire(Session session) {
    note(session.place == Place.MEMORY ? 2 : 6, 0, session.instance);
    session.place = Place.GONE;
  }

  private void end() {
    sessions.stream().filter(s -> s.place != Place.GONE).forEach(this::retire);
    for (int c = 0; c < components.size(); c++) {
      resting(c).stream().sorted().forEach(i -> note(2, 0, i));
    }
    List<Integer> order = new ArrayList<>(begun.values());
    for (int i = order.size() - 1; i >= 0; i--) {
      note(2, 0, order.get(i));
    }
    phase = Phase.ENDED;
  }
}
