import java.lang.reflect.Method;
import java.util.ArrayList;
import java.util.HashMap;
import java.util.List;
import java.util.Map;
import java.util.Set;

/**
 * Runs scripts of calls, each on a new SessionHost, and counts the answers that are not as due.
 *
 * <p>Rows are parted by line ends or ';'. A row is "name(arguments) = answer", or
 * "news: ..." with all events since the last such row, oldest first, parted by commas:
 * "created 3", "entered 3 by 0", or "none". What stands behind '#' is a remark.
 *
 * <p>Whenever a row is answered with -1 or false, or only asks, two new objects that have made
 * the calls before it, one of them this one too, are asked all questions: they answer alike.
 */
final class Script {
  private static final String[] KINDS = {
    "", "created", "destroyed", "discarded", "putaway", "activated", "dropped", "entered", "left"
  };
  private static final Map<String, Method> METHODS = methods();
  private static final Set<String> ASKING = Set.of("state", "result", "instance", "session",
      "task", "instances", "waiting", "events", "event");
  private static final List<String> QUESTIONS = questions();
  /** Nothing is promised of an object after so many calls. */
  private static final int LIFETIME = 512;
  private static int wrong = 0;
  private static int rows = 0;

  private final String name;
  private final SessionHost host = new SessionHost();
  /** The calls up to now that may have changed something. */
  private final List<String> made = new ArrayList<>();
  private int eventsSeen = 0;

  private Script(String name) {
    this.name = name;
  }

  static void run(String name, String text) {
    Script script = new Script(name);
    for (String line : text.split("\n")) {
      for (String row : line.replaceFirst("#.*", "").split(";")) {
        if (!row.isBlank()) {
          script.row(row.trim());
        }
      }
    }
  }

  /** Counts one answer that was got by other means than a script. */
  static void due(String what, String got, String want) {
    rows++;
    if (!got.equals(want)) {
      wrong++;
      System.out.println(what + ": got " + got + ", due is " + want);
    }
  }

  static void end() {
    System.out.println(rows + " answers, " + wrong + " not as due");
    if (wrong != 0 || rows == 0) {
      System.exit(1);
    }
  }

  private void row(String row) {
    if (row.startsWith("news:")) {
      due(name + ": news", news(), row.substring(5).trim().replaceAll("\\s+", " "));
      return;
    }
    String[] sides = row.split("=");
    String call = sides[0].trim();
    String got = answer(host, call);
    due(name + ": " + call, got, sides[1].trim());
    if (got.equals("-1") || got.equals("false") || ASKING.contains(nameOf(call))) {
      changesNothing(call);
    } else {
      made.add(call);
    }
  }

  private void changesNothing(String call) {
    if (made.size() + 1 + QUESTIONS.size() > LIFETIME) {
      return;
    }
    SessionHost without = afterCallsMade();
    SessionHost with = afterCallsMade();
    answer(with, call);
    StringBuilder changes = new StringBuilder();
    for (String question : QUESTIONS) {
      String before = answer(without, question);
      String after = answer(with, question);
      if (!before.equals(after)) {
        changes.append(question).append(" from ").append(before).append(" to ").append(after);
      }
    }
    due(name + ": what " + call + " changes", changes.toString(), "");
  }

  private SessionHost afterCallsMade() {
    SessionHost another = new SessionHost();
    for (String call : made) {
      answer(another, call);
    }
    return another;
  }

  private static String nameOf(String call) {
    return call.substring(0, call.indexOf('('));
  }

  private static String answer(SessionHost host, String call) {
    int open = call.indexOf('(');
    String inside = call.substring(open + 1, call.lastIndexOf(')')).trim();
    String[] texts = inside.isEmpty() ? new String[0] : inside.split("\\s*,\\s*");
    Method method = METHODS.get(nameOf(call));
    Object[] arguments = new Object[texts.length];
    for (int i = 0; i < texts.length; i++) {
      boolean isBoolean = method.getParameterTypes()[i] == boolean.class;
      arguments[i] = isBoolean ? (Object) texts[i].equals("true") : (Object) number(texts[i]);
    }
    try {
      return String.valueOf(method.invoke(host, arguments));
    } catch (ReflectiveOperationException e) {
      return String.valueOf(e.getCause());
    }
  }

  private static Integer number(String text) {
    return switch (text) {
      case "MIN" -> Integer.MIN_VALUE;
      case "MAX" -> Integer.MAX_VALUE;
      default -> Integer.valueOf(text);
    };
  }

  private String news() {
    int count = host.events();
    StringBuilder told = new StringBuilder();
    for (int i = eventsSeen; i < count; i++) {
      told.append(told.isEmpty() ? "" : ", ").append(tell(host.event(count - 1 - i)));
    }
    eventsSeen = count;
    return told.isEmpty() ? "none" : told.toString();
  }

  private static String tell(int event) {
    int kind = event % 16;
    int who = event / 16 % 16;
    String text = (kind < KINDS.length ? KINDS[kind] : "kind " + kind) + " " + event / 256;
    return who == 0 ? text : text + " by " + (who - 1);
  }

  private static List<String> questions() {
    List<String> all = new ArrayList<>(List.of("events()"));
    ask(all, "state", 8);
    ask(all, "result", 8);
    ask(all, "instance", 8);
    ask(all, "instances", 8);
    ask(all, "session", 24);
    ask(all, "task", 24);
    ask(all, "waiting", 32);
    ask(all, "event", 64);
    return all;
  }

  private static void ask(List<String> all, String name, int count) {
    for (int i = 0; i < count; i++) {
      all.add(name + "(" + i + ")");
    }
  }

  private static Map<String, Method> methods() {
    Map<String, Method> found = new HashMap<>();
    for (Method method : SessionHost.class.getMethods()) {
      if (method.getDeclaringClass() == SessionHost.class) {
        found.put(method.getName(), method);
      }
    }
    return found;
  }
}
