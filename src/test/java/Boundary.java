import java.io.IOException;
import java.nio.file.Files;
import java.nio.file.Path;

/**
 * Tests of single sentences of the document. A sentence is told in the document's own words and
 * looked up in the section that is named, so that no test outlives the words it stands for.
 */
final class Boundary {
  private static final Path DOCUMENT = Path.of("../shared/DOC.md");
  private static final String TEXT = plain(read());

  private Boundary() {}

  /** Runs scripts, each on a new object, that would fail if the sentence were broken. */
  static void holds(String section, String sentence, String... scripts) {
    quote(section, sentence);
    for (String script : scripts) {
      Script.run(section + ", '" + sentence + "'", script);
    }
  }

  /**
   * Makes a call with a number for its '?': the first and the last of low .. high, which are
   * answered alike, and the numbers just beyond and furthest beyond, each on a new object.
   */
  static void range(String section, String sentence, String before, String call, Range range) {
    for (int number : new int[] {range.low(), range.high()}) {
      holds(section, sentence, before + "\n" + filled(call, number) + " = " + range.within());
    }
    int[] beyond = {range.low() - 1, range.high() + 1, Integer.MIN_VALUE, Integer.MAX_VALUE};
    for (int number : beyond) {
      holds(section, sentence, before + "\n" + filled(call, number) + " = " + range.beyond());
    }
  }

  record Range(int low, int high, String within, String beyond) {}

  /** The rows once for each number of first .. last, which stands for their '?'. */
  static String counted(int first, int last, String rows) {
    StringBuilder all = new StringBuilder();
    for (int number = first; number <= last; number++) {
      all.append(filled(rows, number)).append('\n');
    }
    return all.toString();
  }

  private static String filled(String rows, int number) {
    return rows.replace("?", String.valueOf(number));
  }

  private static void quote(String section, String sentence) {
    if (TEXT.isEmpty()) {
      return;
    }
    int from = TEXT.indexOf("## " + section);
    int to = TEXT.indexOf(" ## ", from + 1);
    String words = from < 0 ? "" : TEXT.substring(from, to < 0 ? TEXT.length() : to);
    String found = words.contains(plain(sentence)) ? "there" : "not there";
    Script.due("'" + sentence + "' in section " + section, found, "there");
  }

  private static String plain(String text) {
    return text.replace("```text", " ").replace("```", " ").replaceAll("\\s+", " ");
  }

  private static String read() {
    try {
      return Files.readString(DOCUMENT);
    } catch (IOException e) {
      System.out.println(DOCUMENT + " cannot be read: its words are not looked up");
      return "";
    }
  }
}
