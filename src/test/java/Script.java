import java.lang.reflect.Method;
import java.util.HashMap;
import java.util.Map;

/**
 * Runs scripts of calls, each on a new SessionHost, and counts the answers that are not as due.
 *
 * <p>Rows are parted by line ends or ';'. A row is "name(arguments) = answer", or
 * "news: ..." with all events since the last such row, oldest first, parted by commas:
 * "created 3", "entered 3 by 0", or "none". What stands behind '#' is a remark.
 */
final class Script {
  private static final String[] KINDS = {
    "", "created", "destroyed", "discarded", "putaway", "activated", "dropped", "entered", "left"
  };
  private static final Map<String, Method> METHODS = methods();
  private static int wrong = 0;
  private static int rows = 0;

  private final String name;
  private final SessionHost host = new SessionHost();
  private int eventsSeen = 0;

  private Script(String name) {
    this.name = name;
  }

  static void run(String name, String text) {
    Script script = new Script(name);
    for (String line : text.split("\n")) {
      for (String row : line.replaceFirst("#.*", "").split(";")) {
        if (!row.isBlank()) {
          script.row(row.trim());
        }
      }
    }
  }

  /** Counts one answer that was got by other means than a script. */
  static void due(String what, String got, String want) {
    rows++;
    if (!got.equals(want)) {
      wrong++;
      System.out.println(what + ": got " + got + ", due is " + want);
    }
  }

  static void end() {
    System.out.println(rows + " answers, " + wrong + " not as due");
    if (wrong != 0 || rows == 0) {
      System.exit(1);
    }
  }

  private void row(String row) {
    if (row.startsWith("news:")) {
      due(name + ": news", news(), row.substring(5).trim().replaceAll("\\s+", " "));
      return;
    }
    String[] sides = row.split("=");
    String call = sides[0].trim();
    due(name + ": " + call, answer(call), sides[1].trim());
  }

  private String answer(String call) {
    int open = call.indexOf('(');
    String inside = call.substring(open + 1, call.lastIndexOf(')')).trim();
    String[] texts = inside.isEmpty() ? new String[0] : inside.split("\\s*,\\s*");
    Method method = METHODS.get(call.substring(0, open));
    Object[] arguments = new Object[texts.length];
    for (int i = 0; i < texts.length; i++) {
      boolean isBoolean = method.getParameterTypes()[i] == boolean.class;
      arguments[i] = isBoolean ? (Object) texts[i].equals("true") : (Object) number(texts[i]);
    }
    try {
      return String.valueOf(method.invoke(host, arguments));
    } catch (ReflectiveOperationException e) {
      return String.valueOf(e.getCause());
    }
  }

  private static Integer number(String text) {
    return switch (text) {
      case "MIN" -> Integer.MIN_VALUE;
      case "MAX" -> Integer.MAX_VALUE;
      default -> Integer.valueOf(text);
    };
  }

  private String news() {
    int count = host.events();
    StringBuilder told = new StringBuilder();
    for (int i = eventsSeen; i < count; i++) {
      told.append(told.isEmpty() ? "" : ", ").append(tell(host.event(count - 1 - i)));
    }
    eventsSeen = count;
    return told.isEmpty() ? "none" : told.toString();
  }

  private static String tell(int event) {
    int kind = event % 16;
    int who = event / 16 % 16;
    String text = (kind < KINDS.length ? KINDS[kind] : "kind " + kind) + " " + event / 256;
    return who == 0 ? text : text + " by " + (who - 1);
  }

  private static Map<String, Method> methods() {
    Map<String, Method> found = new HashMap<>();
    for (Method method : SessionHost.class.getMethods()) {
      if (method.getDeclaringClass() == SessionHost.class) {
        found.put(method.getName(), method);
      }
    }
    return found;
  }
}
