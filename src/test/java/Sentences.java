import java.io.IOException;
import java.nio.file.Files;
import java.nio.file.Path;
import java.util.LinkedHashMap;
import java.util.List;
import java.util.Map;
import java.util.function.Consumer;

/**
 * The document's sentences, each with a test of its own. A test names the part of the document and
 * the words in it: they must stand there, so that no test speaks of a sentence that is none.
 */
final class Sentences {
  private static final Path DOCUMENT = Path.of("../shared/DOC.md");
  private static final int MOST_TOLD = 60;

  private final Map<String, String> parts = new LinkedHashMap<>();
  /** What of the promises and terms no test has named yet. */
  private final Map<String, String> left = new LinkedHashMap<>();
  private String sentence = "";
  private int tests = 0;
  private int wrong = 0;

  Sentences() throws IOException {
    String part = "";
    for (String line : Files.readAllLines(DOCUMENT)) {
      if (line.startsWith("## ")) part = line.equals("## Terms") ? "Terms 1" : line.substring(3);
      else if (line.startsWith("==== ")) part = "Terms " + line.charAt(5);
      parts.merge(part, line, (old, more) -> old + " " + more);
    }
    parts.replaceAll((name, text) -> plain(text));
    parts.forEach((name, text) -> {
      if (name.startsWith("Promise ") || name.startsWith("Terms ")) left.put(name, withoutHead(text));
    });
  }

  /** Without the heading or the part's number, and without the method's own line. */
  private static String withoutHead(String text) { return text.replaceAll("^## (Terms|Promise .*`[^`]*`:)|^==== \\d\\.|```text|```", " "); }

  private static String plain(String text) { return text.replaceAll("\\s+", " "); }

  void test(String part, String words, Consumer<Sentences> body) {
    sentence = part + ", \"" + words + "\"";
    tests++;
    left.computeIfPresent(part, (name, text) -> text.replace(plain(words), " "));
    if (!parts.getOrDefault(part, "").contains(plain(words))) tell("the document does not say so");
    try {
      body.accept(this);
    } catch (RuntimeException e) {
      tell("thrown: " + e + " at " + e.getStackTrace()[0]);
    }
  }

  private void tell(String what) {
    wrong++;
    if (wrong <= MOST_TOLD) System.out.println(sentence + ": " + what);
  }

  void due(String call, long got, long want) {
    if (got != want) tell(call + " answered " + got + ", due is " + want);
  }

  void due(String call, boolean got, boolean want) {
    if (got != want) tell(call + " answered " + got + ", due is " + want);
  }

  void same(String calls, List<String> now, List<String> before) {
    for (int i = 0; i < before.size(); i++) {
      if (!now.get(i).equals(before.get(i))) tell("behind " + calls + ": " + now.get(i) + ", but ahead of it " + before.get(i));
    }
  }

  /** Whether all answers were as due, and each word of the promises and the terms had a test that names it. */
  boolean hold() {
    sentence = "the whole document";
    left.forEach((part, text) -> {
      String words = text.replaceAll("[^\\p{Alnum}]+", " ").trim();
      if (!words.isEmpty()) tell("no test of " + part + " names: " + words);
    });
    String all = tests + " sentences";
    System.out.println(wrong == 0 ? "EdgeTest: " + all + " hold" : "EdgeTest: " + wrong + " answers of " + all + " are not as due");
    return wrong == 0;
  }
}
