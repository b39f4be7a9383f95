import java.util.ArrayList;

/** A container that serves components to callers; the numbered promises of DOC.md say how. */
public final class SessionHost {
  private static final int FURNISHED = 0;
  private static final int RUNNING = 1;
  private static final int STOPPING = 2;
  private static final int ENDED = 3;

  private static final int STATELESS = 0;
  private static final int STATEFUL = 1;
  private static final int SINGLETON = 2;

  private static final int MAX_COMPONENTS = 8;
  private static final int MAX_SESSIONS = 24;
  private static final int MAX_TASKS = 24;
  private static final int MAX_CALLERS = 8;
  private static final int MAX_METHODS = 4;
  private static final int MAX_TARGETS = 32;
  private static final int MAX_POOL = 4;
  private static final int MAX_TIMEOUT = 100;
  private static final int MAX_IDLE = 100;
  private static final int MAX_TICKS = 50;
  private static final int FIRST_WORKER = 6;
  private static final int FIRST_SESSION_TARGET = 8;
  private static final int LAST_TYPE = 7;
  private static final int WITHOUT_END = -1;
  private static final int NONE = -1;

  private static final int READING = 0;
  private static final int WRITING = 1;
  private static final int REMOVING = 1;
  private static final int REMOVING_WHEN_WELL = 2;

  private static final int WELL = 0;
  private static final int SYSTEM = 8;
  private static final int NOSUCH = 9;
  private static final int TIMEOUT = 10;
  private static final int BUSY = 11;
  private static final int LOOPBACK = 12;
  private static final int STOPPED = 13;

  // A call that gives no result comes to one of these. They share the numbers with the
  // results, so that one number tells what a call came to.
  private static final int ENTERS = 20;
  private static final int WAITS = 21;

  private static final int CREATED = 1;
  private static final int DESTROYED = 2;
  private static final int DISCARDED = 3;
  private static final int PUTAWAY = 4;
  private static final int ACTIVATED = 5;
  private static final int DROPPED = 6;
  private static final int ENTERED = 7;
  private static final int LEFT = 8;

  private final Journal journal = new Journal();
  private final Clock clock = new Clock();
  private final ExceptionTypes types = new ExceptionTypes();
  private final Caller[] callers = new Caller[MAX_CALLERS];
  // A component stands in one of these two rows by its number: a stateful one is no target.
  private final Target[] targets = new Target[MAX_TARGETS];
  private final Stateful[] statefuls = new Stateful[MAX_COMPONENTS];
  private final ArrayList<Session> sessions = new ArrayList<>();
  private final ArrayList<Task> tasks = new ArrayList<>();
  private int componentCount = 0;
  private int phase = FURNISHED;

  public SessionHost() {
    for (int i = 0; i < MAX_CALLERS; i++) {
      callers[i] = new Caller(i);
    }
  }

  public int component(int kind, int size, int timeout, int idle) {
    if (phase != FURNISHED || componentCount >= MAX_COMPONENTS) {
      return -1;
    }
    if (!isSizeOfKind(kind, size) || timeout < WITHOUT_END || timeout > MAX_TIMEOUT) {
      return -1;
    }
    if (idle < 0 || idle > (kind == STATEFUL ? MAX_IDLE : 0)) {
      return -1;
    }
    int number = componentCount;
    componentCount++;
    if (kind == STATEFUL) {
      statefuls[number] = new Stateful(size, timeout, idle);
    } else if (kind == STATELESS) {
      targets[number] = new Pool(size, timeout, journal);
    } else {
      targets[number] = new Singleton(size, timeout, journal);
    }
    return number;
  }

  public boolean depends(int a, int b) {
    Singleton needing = singletonAt(a);
    Singleton needed = singletonAt(b);
    if (phase != FURNISHED || needing == null || needed == null) {
      return false;
    }
    if (needing.needsDirectly(needed) || Singleton.leadsTo(needed, needing, 0)) {
      return false;
    }
    needing.needs.add(needed);
    return true;
  }

  public boolean application(int e, boolean inherited) {
    return phase == FURNISHED && types.mark(e, inherited);
  }

  public int start() {
    if (phase != FURNISHED) {
      return -1;
    }
    phase = RUNNING;
    for (int c = 0; c < MAX_COMPONENTS; c++) {
      Singleton singleton = singletonAt(c);
      if (singleton != null && singleton.eager) {
        singleton.begin(0);
      }
    }
    return countBegun();
  }

  public int create(int c) {
    if (phase != RUNNING || c < 0 || c >= MAX_COMPONENTS || sessions.size() >= MAX_SESSIONS) {
      return -1;
    }
    Stateful home = statefuls[c];
    if (home == null) {
      return -1;
    }
    int number = sessions.size();
    Session made = new Session(home, journal, clock);
    made.comeToBe();
    home.sessions.add(made);
    sessions.add(made);
    targets[FIRST_SESSION_TARGET + number] = made;
    settle();
    return number;
  }

  public int call(int caller, int target, int mode) {
    Caller who = callerAt(caller);
    Target aim = targetAt(target);
    if (phase != RUNNING || who == null || !who.mayCall()) {
      return -1;
    }
    if (aim == null || !aim.hasMode(mode)) {
      return -1;
    }
    int answer = makeCall(who, aim, mode);
    settle();
    return answer;
  }

  public int finish(int caller, int outcome) {
    Caller who = callerAt(caller);
    if (who == null || !who.mayEnd() || outcome < WELL || outcome > LAST_TYPE) {
      return -1;
    }
    int answer = endMethod(who, outcome);
    if (phase == RUNNING) {
      settle();
    } else {
      endIfNoMethodIsLeft();
    }
    return answer;
  }

  public int tick(int n) {
    if (phase != RUNNING || n < 0 || n > MAX_TICKS) {
      return -1;
    }
    int timedOut = 0;
    int gone = 0;
    for (int i = 0; i < n; i++) {
      clock.now++;
      timedOut += timeOutCallers();
      settle();
      gone += retireIdleSessions();
    }
    return timedOut + 100 * gone;
  }

  public int submit(int target, int mode, boolean wanted) {
    Target aim = targetAt(target);
    if (phase != RUNNING || aim == null || !aim.hasMode(mode) || tasks.size() >= MAX_TASKS) {
      return -1;
    }
    int number = tasks.size();
    tasks.add(new Task(aim, mode, wanted));
    settle();
    return number;
  }

  public int cancel(int k) {
    if (k < 0 || k >= tasks.size()) {
      return 0;
    }
    return tasks.get(k).calledOff();
  }

  public int shutdown() {
    if (phase != RUNNING) {
      return -1;
    }
    for (int k = 0; k < tasks.size(); k++) {
      tasks.get(k).dropIfWaiting();
    }
    int stopped = 0;
    for (int i = 0; i < MAX_CALLERS; i++) {
      if (callers[i].waits()) {
        callers[i].leaveLine();
        callers[i].gets(STOPPED);
        stopped++;
      }
    }
    phase = STOPPING;
    endIfNoMethodIsLeft();
    return stopped;
  }

  public int state(int caller) {
    Caller who = callerAt(caller);
    if (who == null) {
      return -1;
    }
    return who.waits() ? who.depth + 8 : who.depth;
  }

  public int result(int caller) {
    Caller who = callerAt(caller);
    return who == null ? -1 : who.latestResult;
  }

  public int instance(int caller) {
    Caller who = callerAt(caller);
    return who == null || who.depth == 0 ? -1 : who.instances[who.depth - 1];
  }

  public int session(int s) {
    if (s < 0 || s >= sessions.size()) {
      return 0;
    }
    Session asked = sessions.get(s);
    return asked.inUse ? 2 : asked.place;
  }

  public int task(int k) {
    if (k < 0 || k >= tasks.size()) {
      return 0;
    }
    return tasks.get(k).describe();
  }

  public int instances(int c) {
    if (c < 0 || c >= componentCount) {
      return -1;
    }
    if (statefuls[c] != null) {
      return statefuls[c].countInMemory();
    }
    if (targets[c] instanceof Pool pool) {
      return pool.total;
    }
    Singleton singleton = singletonAt(c);
    return singleton != null && singleton.instance != NONE ? 1 : 0;
  }

  public int waiting(int target) {
    Target asked = targetAt(target);
    return asked == null ? -1 : asked.line.size();
  }

  public int events() {
    return journal.count;
  }

  public int event(int k) {
    return journal.back(k);
  }

  private static boolean isSizeOfKind(int kind, int size) {
    if (kind == SINGLETON) {
      return size >= 0 && size <= 3;
    }
    return (kind == STATELESS || kind == STATEFUL) && size >= 1 && size <= 4;
  }

  private Caller callerAt(int number) {
    return number < 0 || number >= MAX_CALLERS ? null : callers[number];
  }

  private Target targetAt(int number) {
    return number < 0 || number >= MAX_TARGETS ? null : targets[number];
  }

  private Singleton singletonAt(int number) {
    return targetAt(number) instanceof Singleton singleton ? singleton : null;
  }

  private int countBegun() {
    int begun = 0;
    for (int c = 0; c < MAX_COMPONENTS; c++) {
      Singleton singleton = singletonAt(c);
      if (singleton != null && singleton.begun) {
        begun++;
      }
    }
    return begun;
  }

  /** Answers ENTERS, WAITS or the result that the caller got. */
  private int makeCall(Caller caller, Target target, int mode) {
    if (target instanceof Singleton singleton) {
      singleton.begin(0);
    }
    int verdict = target.judge(caller, mode, target.line.isEmpty());
    if (verdict == ENTERS) {
      enter(caller, target, mode);
      return ENTERS;
    }
    if (verdict == WAITS && target.timeout != 0) {
      caller.joinLine(target, mode, clock.now);
      return WAITS;
    }
    int result = verdict == WAITS ? BUSY : verdict;
    caller.gets(result);
    return result;
  }

  private void enter(Caller caller, Target target, int mode) {
    int instance = target.take(mode);
    caller.push(target, instance, mode);
    journal.note(ENTERED, caller.number + 1, instance);
  }

  /** Answers the result that the caller got. */
  private int endMethod(Caller caller, int outcome) {
    int latest = caller.depth - 1;
    Target target = caller.targets[latest];
    int instance = caller.instances[latest];
    boolean system = outcome != WELL && !types.isApplication(outcome);
    caller.depth = latest;
    journal.note(LEFT, caller.number + 1, instance);
    if (target != null) {
      target.giveBack(instance, caller.modes[latest], outcome, system);
    }
    int result = system ? SYSTEM : outcome;
    caller.gets(result);
    return result;
  }

  // One pass is enough: nothing that settling does makes room in a line that it has left.
  private void settle() {
    for (int t = 0; t < MAX_TARGETS; t++) {
      if (targets[t] != null) {
        settleLine(targets[t]);
      }
    }
    for (int k = 0; k < tasks.size(); k++) {
      handOut(tasks.get(k));
    }
    for (int c = 0; c < MAX_COMPONENTS; c++) {
      if (statefuls[c] != null) {
        statefuls[c].putAwayBeyondSize();
      }
    }
  }

  // A caller in a line gets a result here only if it waits for a session that is gone.
  private void settleLine(Target target) {
    for (int i = 0; i < MAX_CALLERS && !target.line.isEmpty(); i++) {
      Caller first = target.line.get(0);
      int mode = first.lineMode;
      int verdict = target.judge(first, mode, true);
      if (verdict == WAITS) {
        return;
      }
      first.leaveLine();
      if (verdict == ENTERS) {
        enter(first, target, mode);
      } else {
        first.gets(verdict);
      }
    }
  }

  private void handOut(Task task) {
    Caller worker = task.isWaiting() ? freeWorker() : null;
    if (worker != null) {
      task.stage = Task.TAKEN;
      worker.work = task;
      makeCall(worker, task.target, task.mode);
    }
  }

  private Caller freeWorker() {
    for (int i = FIRST_WORKER; i < MAX_CALLERS; i++) {
      if (callers[i].work == null) {
        return callers[i];
      }
    }
    return null;
  }

  private int timeOutCallers() {
    int timedOut = 0;
    for (int i = 0; i < MAX_CALLERS; i++) {
      if (callers[i].hasWaitedOut(clock.now)) {
        callers[i].leaveLine();
        callers[i].gets(TIMEOUT);
        timedOut++;
      }
    }
    return timedOut;
  }

  private int retireIdleSessions() {
    int gone = 0;
    for (int s = 0; s < sessions.size(); s++) {
      if (sessions.get(s).isIdleTooLong()) {
        sessions.get(s).retire();
        gone++;
      }
    }
    return gone;
  }

  private void endIfNoMethodIsLeft() {
    for (int i = 0; i < MAX_CALLERS; i++) {
      if (callers[i].depth > 0) {
        return;
      }
    }
    endAll();
  }

  private void endAll() {
    phase = ENDED;
    for (int s = 0; s < sessions.size(); s++) {
      if (sessions.get(s).place != Session.GONE) {
        sessions.get(s).retire();
      }
    }
    for (int c = 0; c < MAX_COMPONENTS; c++) {
      if (targets[c] instanceof Pool pool) {
        pool.destroyAll();
      }
    }
    for (int i = 0; i < MAX_COMPONENTS; i++) {
      Singleton latest = latestBegun();
      if (latest != null) {
        latest.destroy();
      }
    }
  }

  // Instances are numbered as they are made, so the greatest number is the latest begun.
  private Singleton latestBegun() {
    Singleton latest = null;
    for (int c = 0; c < MAX_COMPONENTS; c++) {
      Singleton singleton = singletonAt(c);
      if (singleton != null && singleton.instance != NONE) {
        if (latest == null || singleton.instance > latest.instance) {
          latest = singleton;
        }
      }
    }
    return latest;
  }

  /** The events, of which only the latest can be asked for, and the numbers of instances. */
  private static final class Journal {
    private static final int KEPT = 64;

    private final int[] latest = new int[KEPT];
    private int count = 0;
    private int instancesMade = 0;

    // KEPT is a power of two, so a mask turns every count into an index of the row.
    void note(int kind, int who, int instance) {
      latest[count & (KEPT - 1)] = kind + 16 * who + 256 * instance;
      count++;
    }

    int newInstance() {
      int number = instancesMade;
      instancesMade++;
      note(CREATED, 0, number);
      return number;
    }

    int back(int k) {
      if (k < 0 || k >= KEPT || k >= count) {
        return -1;
      }
      return latest[(count - 1 - k) & (KEPT - 1)];
    }
  }

  /** The time, and the order of uses, of which several can fall on one time. */
  private static final class Clock {
    private int now = 0;
    private int uses = 0;

    int nextUse() {
      uses++;
      return uses;
    }
  }

  private static final class ExceptionTypes {
    private static final int UNMARKED = 0;
    private static final int MARKED_ALONE = 1;
    private static final int INHERITED = 2;

    private final int[] marks = new int[LAST_TYPE + 1];

    boolean mark(int e, boolean inherited) {
      if (e < 1 || e > LAST_TYPE || marks[e] != UNMARKED) {
        return false;
      }
      marks[e] = inherited ? INHERITED : MARKED_ALONE;
      return true;
    }

    boolean isApplication(int e) {
      if (marks[e] != UNMARKED) {
        return true;
      }
      for (int parent = e / 2; parent >= 1; parent = parent / 2) {
        if (marks[parent] != UNMARKED) {
          return marks[parent] == INHERITED;
        }
      }
      return false;
    }
  }

  /** What can be called: a pool, a session or a singleton, each with its line. */
  private abstract static class Target {
    final ArrayList<Caller> line = new ArrayList<>();
    final Journal journal;
    final int timeout;
    private final int modes;

    Target(Journal journal, int timeout, int modes) {
      this.journal = journal;
      this.timeout = timeout;
      this.modes = modes;
    }

    boolean hasMode(int mode) {
      return mode >= 0 && mode < modes;
    }

    /** Answers ENTERS, WAITS if the caller is refused for now, or the result that is due. */
    abstract int judge(Caller caller, int mode, boolean lineIsEmpty);

    /** Answers the instance in which a caller enters. */
    abstract int take(int mode);

    abstract void giveBack(int instance, int mode, int outcome, boolean system);
  }

  private static final class Pool extends Target {
    private final int size;
    // A stack, since the instance that came back latest is taken first.
    private final int[] free = new int[MAX_POOL];
    private int freeCount = 0;
    private int total = 0;

    Pool(int size, int timeout, Journal journal) {
      super(journal, timeout, 1);
      this.size = size;
    }

    int judge(Caller caller, int mode, boolean lineIsEmpty) {
      return lineIsEmpty && (freeCount > 0 || total < size) ? ENTERS : WAITS;
    }

    int take(int mode) {
      if (freeCount > 0) {
        freeCount--;
        return free[freeCount];
      }
      total++;
      return journal.newInstance();
    }

    void giveBack(int instance, int mode, int outcome, boolean system) {
      if (system) {
        total--;
        journal.note(DISCARDED, 0, instance);
      } else if (freeCount < MAX_POOL) {
        free[freeCount] = instance;
        freeCount++;
      }
    }

    void destroyAll() {
      for (int i = 0; i < MAX_POOL && freeCount > 0; i++) {
        journal.note(DESTROYED, 0, takeLowest());
      }
      total = 0;
    }

    private int takeLowest() {
      int at = 0;
      for (int i = 1; i < freeCount; i++) {
        if (free[i] < free[at]) {
          at = i;
        }
      }
      int lowest = free[at];
      freeCount--;
      free[at] = free[freeCount];
      return lowest;
    }
  }

  private static final class Singleton extends Target {
    private final ArrayList<Singleton> needs = new ArrayList<>();
    private final boolean eager;
    private final boolean cannotBegin;
    private boolean begun = false;
    private boolean failed = false;
    private int instance = NONE;
    private int methods = 0;
    private int writingMethods = 0;

    Singleton(int size, int timeout, Journal journal) {
      super(journal, timeout, 2);
      eager = size == 1 || size == 3;
      cannotBegin = size == 2 || size == 3;
    }

    boolean needsDirectly(Singleton other) {
      for (int i = 0; i < needs.size(); i++) {
        if (needs.get(i) == other) {
          return true;
        }
      }
      return false;
    }

    // No way is longer than there are components, as none comes back to where it was.
    private static boolean leadsTo(Singleton from, Singleton to, int depth) {
      if (from == to) {
        return true;
      }
      for (int i = 0; i < from.needs.size() && depth < MAX_COMPONENTS; i++) {
        if (leadsTo(from.needs.get(i), to, depth + 1)) {
          return true;
        }
      }
      return false;
    }

    private void begin(int depth) {
      if (begun || failed || depth >= MAX_COMPONENTS) {
        return;
      }
      for (int i = 0; i < needs.size() && !failed; i++) {
        Singleton need = needs.get(i);
        need.begin(depth + 1);
        failed = need.failed;
      }
      failed = failed || cannotBegin;
      if (!failed) {
        begun = true;
        instance = journal.newInstance();
      }
    }

    int judge(Caller caller, int mode, boolean lineIsEmpty) {
      if (failed) {
        return NOSUCH;
      }
      if (caller.hasMethodIn(this)) {
        return mode == READING || caller.writesIn(this) ? ENTERS : LOOPBACK;
      }
      boolean free = mode == READING ? writingMethods == 0 : methods == 0;
      return lineIsEmpty && free ? ENTERS : WAITS;
    }

    int take(int mode) {
      methods++;
      if (mode == WRITING) {
        writingMethods++;
      }
      return instance;
    }

    void giveBack(int left, int mode, int outcome, boolean system) {
      methods--;
      if (mode == WRITING) {
        writingMethods--;
      }
    }

    void destroy() {
      journal.note(DESTROYED, 0, instance);
      instance = NONE;
    }
  }

  /** A stateful component: the home of its sessions. */
  private static final class Stateful {
    private final ArrayList<Session> sessions = new ArrayList<>();
    private final int size;
    private final int timeout;
    private final int idle;

    Stateful(int size, int timeout, int idle) {
      this.size = size;
      this.timeout = timeout;
      this.idle = idle;
    }

    int countInMemory() {
      int count = 0;
      for (int i = 0; i < sessions.size(); i++) {
        if (sessions.get(i).place == Session.IN_MEMORY) {
          count++;
        }
      }
      return count;
    }

    void putAwayBeyondSize() {
      int beyond = countInMemory() - size;
      for (int i = 0; i < beyond; i++) {
        Session oldest = longestUnused();
        if (oldest != null) {
          oldest.putAway();
        }
      }
    }

    private Session longestUnused() {
      Session oldest = null;
      for (int i = 0; i < sessions.size(); i++) {
        Session session = sessions.get(i);
        if (session.place == Session.IN_MEMORY && !session.inUse) {
          if (oldest == null || session.latestUse < oldest.latestUse) {
            oldest = session;
          }
        }
      }
      return oldest;
    }
  }

  private static final class Session extends Target {
    private static final int GONE = 0;
    private static final int IN_MEMORY = 1;
    private static final int PUT_AWAY = 3;

    private final Stateful home;
    private final Clock clock;
    private int instance = NONE;
    private int place = GONE;
    private boolean inUse = false;
    private int latestUse = 0;
    private int latestUseTime = 0;

    Session(Stateful home, Journal journal, Clock clock) {
      super(journal, home.timeout, 3);
      this.home = home;
      this.clock = clock;
    }

    void comeToBe() {
      instance = journal.newInstance();
      place = IN_MEMORY;
      markUsed();
    }

    private void markUsed() {
      latestUse = clock.nextUse();
      latestUseTime = clock.now;
    }

    int judge(Caller caller, int mode, boolean lineIsEmpty) {
      if (place == GONE) {
        return NOSUCH;
      }
      if (caller.hasMethodIn(this)) {
        return LOOPBACK;
      }
      return inUse ? WAITS : ENTERS;
    }

    int take(int mode) {
      if (place == PUT_AWAY) {
        place = IN_MEMORY;
        journal.note(ACTIVATED, 0, instance);
      }
      inUse = true;
      return instance;
    }

    void giveBack(int left, int mode, int outcome, boolean system) {
      inUse = false;
      markUsed();
      if (system) {
        vanish(DISCARDED);
      } else if (mode == REMOVING || (mode == REMOVING_WHEN_WELL && outcome == WELL)) {
        vanish(DESTROYED);
      }
    }

    void putAway() {
      place = PUT_AWAY;
      journal.note(PUTAWAY, 0, instance);
    }

    boolean isIdleTooLong() {
      if (place == GONE || inUse || home.idle == 0) {
        return false;
      }
      return latestUseTime <= clock.now - home.idle;
    }

    void retire() {
      vanish(place == IN_MEMORY ? DESTROYED : DROPPED);
    }

    private void vanish(int eventKind) {
      place = GONE;
      journal.note(eventKind, 0, instance);
    }
  }

  private static final class Caller {
    private final int number;
    private final Target[] targets = new Target[MAX_METHODS];
    private final int[] instances = new int[MAX_METHODS];
    private final int[] modes = new int[MAX_METHODS];
    private int depth = 0;
    private Target lineTarget = null;
    private int lineMode = 0;
    private int waitsSince = 0;
    private int latestResult = NONE;
    private Task work = null;

    Caller(int number) {
      this.number = number;
    }

    boolean waits() {
      return lineTarget != null;
    }

    boolean mayCall() {
      boolean workerAtRest = number >= FIRST_WORKER && depth == 0;
      return !waits() && depth < MAX_METHODS && !workerAtRest;
    }

    boolean mayEnd() {
      return depth > 0 && !waits();
    }

    boolean hasMethodIn(Target target) {
      for (int i = 0; i < depth; i++) {
        if (targets[i] == target) {
          return true;
        }
      }
      return false;
    }

    boolean writesIn(Target target) {
      for (int i = 0; i < depth; i++) {
        if (targets[i] == target && modes[i] == WRITING) {
          return true;
        }
      }
      return false;
    }

    void push(Target target, int instance, int mode) {
      if (depth < MAX_METHODS) {
        targets[depth] = target;
        instances[depth] = instance;
        modes[depth] = mode;
        depth++;
      }
    }

    void joinLine(Target target, int mode, int now) {
      lineTarget = target;
      lineMode = mode;
      waitsSince = now;
      target.line.add(this);
    }

    void leaveLine() {
      if (lineTarget == null) {
        return;
      }
      ArrayList<Caller> line = lineTarget.line;
      lineTarget = null;
      for (int i = 0; i < line.size(); i++) {
        if (line.get(i) == this) {
          line.remove(i);
          return;
        }
      }
    }

    boolean hasWaitedOut(int now) {
      if (lineTarget == null || lineTarget.timeout == WITHOUT_END) {
        return false;
      }
      return waitsSince <= now - lineTarget.timeout;
    }

    void gets(int result) {
      latestResult = result;
      if (work != null && depth == 0) {
        work.endWith(result);
        work = null;
      }
    }
  }

  private static final class Task {
    private static final int WAITING = 1;
    private static final int TAKEN = 2;
    private static final int CANCELLED = 3;
    private static final int DONE = 4;

    private final Target target;
    private final int mode;
    private final boolean wanted;
    private int stage = WAITING;
    private boolean noted = false;
    private int outcome = NONE;

    Task(Target target, int mode, boolean wanted) {
      this.target = target;
      this.mode = mode;
      this.wanted = wanted;
    }

    boolean isWaiting() {
      return stage == WAITING;
    }

    void dropIfWaiting() {
      if (stage == WAITING) {
        stage = CANCELLED;
      }
    }

    int calledOff() {
      if (stage == WAITING) {
        stage = CANCELLED;
        return 1;
      }
      if (stage == TAKEN) {
        noted = true;
        return 2;
      }
      return 0;
    }

    void endWith(int result) {
      stage = DONE;
      outcome = result;
    }

    int describe() {
      int told = noted ? stage + 8 : stage;
      return stage == DONE && wanted ? told + 16 * (outcome + 1) : told;
    }
  }
}
