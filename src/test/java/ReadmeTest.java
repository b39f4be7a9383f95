import java.io.IOException;
import java.lang.reflect.Method;
import java.lang.reflect.Modifier;
import java.nio.file.Files;
import java.nio.file.Path;
import java.util.HashMap;
import java.util.HashSet;
import java.util.Map;
import java.util.Set;
import java.util.regex.Matcher;
import java.util.regex.Pattern;

/** The README's example is answered as the README says, and shows every public method. */
public final class ReadmeTest {
  private static final Path README = Path.of("README.md");
  private static final String BEGINNING = "SessionHost host = new SessionHost();";
  private static final Pattern ROW = Pattern.compile(
      "(?:int (\\w+) = )?host\\.(\\w+)\\((.*)\\);\\s+// (-?\\d+|true|false)(?::.*)?");

  /** The names that the example gives to answers. */
  private final Map<String, String> names = new HashMap<>();
  private final Set<String> shown = new HashSet<>();
  private final StringBuilder script = new StringBuilder();

  public static void main(String[] args) throws IOException {
    ReadmeTest readme = new ReadmeTest();
    boolean inExample = false;
    for (String line : Files.readAllLines(README)) {
      if (line.startsWith("```")) {
        inExample = line.equals("```java");
      } else if (inExample && !line.isBlank() && !line.equals(BEGINNING)) {
        readme.row(line);
      }
    }
    Script.run("the README's example", readme.script.toString());
    readme.showsEveryMethod();
    Script.end();
  }

  private void row(String line) {
    Matcher row = ROW.matcher(line);
    Script.due("a call with its answer: " + line, String.valueOf(row.matches()), "true");
    if (row.matches()) {
      script.append(row.group(2)).append('(').append(arguments(row.group(3))).append(") = ");
      script.append(row.group(4)).append('\n');
      shown.add(row.group(2));
      if (row.group(1) != null) {
        names.put(row.group(1), row.group(4));
      }
    }
  }

  private String arguments(String texts) {
    StringBuilder values = new StringBuilder();
    for (String text : texts.split(", ")) {
      values.append(values.isEmpty() ? "" : ", ").append(argument(text));
    }
    return values.toString();
  }

  private String argument(String text) {
    if (text.startsWith("8 + ")) {
      return String.valueOf(8 + Integer.parseInt(argument(text.substring(4))));
    }
    return names.getOrDefault(text, text);
  }

  private void showsEveryMethod() {
    for (Method method : SessionHost.class.getDeclaredMethods()) {
      if (Modifier.isPublic(method.getModifiers())) {
        String name = method.getName();
        Script.due(name + " in the example", shown.contains(name) ? "shown" : "not", "shown");
      }
    }
  }
}
