import java.io.IOException;
import java.nio.file.Files;
import java.nio.file.Path;
import java.util.LinkedHashMap;
import java.util.List;
import java.util.Map;
import java.util.Set;
import java.util.TreeSet;
import java.util.function.Consumer;

/**
 * The document's sentences, each with a test of its own. A test names the part of the document and
 * the words in it: they must stand there, so that no test speaks of a sentence that is none.
 */
final class Sentences {
  private static final Path DOCUMENT = Path.of("../shared/DOC.md");
  private static final int MOST_TOLD = 60;

  private final Map<String, String> parts = new LinkedHashMap<>();
  private final Set<String> tested = new TreeSet<>();
  private String sentence = "";
  private int tests = 0;
  private int wrong = 0;

  Sentences() throws IOException {
    String part = "";
    for (String line : Files.readAllLines(DOCUMENT)) {
      if (line.startsWith("## ")) part = line.equals("## Terms") ? "Terms 1" : line.substring(3);
      else if (line.startsWith("==== ")) part = "Terms " + line.charAt(5);
      parts.merge(part, line, (old, more) -> old + " " + more);
    }
    parts.replaceAll((name, text) -> plain(text));
  }

  private static String plain(String text) { return text.replaceAll("\\s+", " "); }

  void test(String part, String words, Consumer<Sentences> body) {
    sentence = part + ", \"" + words + "\"";
    tests++;
    tested.add(part);
    if (!parts.getOrDefault(part, "").contains(plain(words))) tell("the document does not say so");
    try {
      body.accept(this);
    } catch (RuntimeException e) {
      tell("thrown: " + e + " at " + e.getStackTrace()[0]);
    }
  }

  private void tell(String what) {
    wrong++;
    if (wrong <= MOST_TOLD) System.out.println(sentence + ": " + what);
  }

  void due(String call, long got, long want) {
    if (got != want) tell(call + " answered " + got + ", due is " + want);
  }

  void due(String call, boolean got, boolean want) {
    if (got != want) tell(call + " answered " + got + ", due is " + want);
  }

  void same(String calls, List<String> now, List<String> before) {
    for (int i = 0; i < before.size(); i++) {
      if (!now.get(i).equals(before.get(i))) tell("behind " + calls + ": " + now.get(i) + ", but ahead of it " + before.get(i));
    }
  }

  /** Whether all answers were as due, and each promise and each part of the terms had a test. */
  boolean hold() {
    sentence = "the whole document";
    for (String part : parts.keySet()) {
      if ((part.startsWith("Promise ") || part.startsWith("Terms ")) && !tested.contains(part)) tell("no test of " + part);
    }
    String all = tests + " sentences";
    System.out.println(wrong == 0 ? "EdgeTest: " + all + " hold" : "EdgeTest: " + wrong + " answers of " + all + " are not as due");
    return wrong == 0;
  }
}
