import java.io.IOException;
import java.lang.reflect.Method;
import java.net.URL;
import java.net.URLClassLoader;
import java.nio.file.Files;
import java.nio.file.Path;
import java.util.ArrayList;
import java.util.List;
import java.util.regex.Matcher;
import java.util.regex.Pattern;
import java.util.stream.Stream;
import javax.tools.ToolProvider;

/** README.md: its Java lines, put together and run, answer what stands behind them; its list has every test. */
public final class ReadmeTest {
  private static final Path README = Path.of("README.md");
  /** A call with its answer behind it; what follows the answer is said to the reader. */
  private static final Pattern ANSWERED = Pattern.compile("(hall\\.\\w+\\(.*\\));\\s*// (true|false|-?\\d+)\\b.*");

  private static int wrong = 0;
  private static int asked = 0;

  private static void check(boolean good, String what) {
    if (good) return;
    wrong++;
    System.out.println("ReadmeTest: " + what);
  }

  /** The program that is made of the README calls this. */
  public static void due(String call, Object got, String want) {
    asked++;
    check(String.valueOf(got).equals(want), call + " answered " + got + ", README.md says " + want);
  }

  private static List<String> blocks(String kind) throws IOException {
    List<String> lines = new ArrayList<>();
    boolean inside = false;
    for (String line : Files.readAllLines(README)) {
      if (line.startsWith("```")) inside = line.equals("```" + kind);
      else if (inside) lines.add(line);
    }
    return lines;
  }

  private static int example(Path folder) throws Exception {
    int answers = 0;
    StringBuilder program = new StringBuilder("public final class Example {\n  public static void run() {\n");
    for (String line : blocks("java")) {
      Matcher m = ANSWERED.matcher(line);
      if (m.matches()) {
        answers++;
        program.append("ReadmeTest.due(\"").append(m.group(1)).append("\", ").append(m.group(1)).append(", \"").append(m.group(2)).append("\");\n");
      } else {
        check(!line.contains("hall."), "no answer stands behind " + line);
        program.append(line).append('\n');
      }
    }
    Path source = folder.resolve("Example.java");
    Files.writeString(source, program.append("  }\n}\n"));
    int code = ToolProvider.getSystemJavaCompiler().run(null, null, null, "-cp", System.getProperty("java.class.path"), "-d", folder.toString(), source.toString());
    check(code == 0, "the Java lines do not compile");
    if (code != 0) return answers;
    try (URLClassLoader loader = new URLClassLoader(new URL[] {folder.toUri().toURL()}, ReadmeTest.class.getClassLoader())) {
      Method run = loader.loadClass("Example").getMethod("run");
      run.invoke(null);
    }
    return answers;
  }

  private static void commands() throws IOException {
    check(blocks("sh").contains(".ci/run"), "the command for the tests is not told");
    check(Files.isExecutable(Path.of(".ci/run")), ".ci/run can't be run as it is told");
    String text = Files.readString(README);
    try (Stream<Path> tests = Files.list(Path.of("src/test/java"))) {
      for (Path test : (Iterable<Path>) tests::iterator) {
        String name = test.getFileName().toString().replace(".java", "");
        check(!name.endsWith("Test") || text.contains("- `" + name + "`: "), name + " is not in the list of tests");
      }
    }
  }

  public static void main(String[] args) throws Exception {
    Path folder = Files.createTempDirectory("readme");
    int answers = example(folder);
    check(answers > 0 && asked == answers, asked + " of " + answers + " calls were made");
    try (Stream<Path> made = Files.list(folder)) {
      for (Path file : (Iterable<Path>) made::iterator) Files.delete(file);
    }
    Files.delete(folder);
    commands();
    System.out.println(wrong == 0 ? "ReadmeTest: " + asked + " calls answer what README.md says" : "ReadmeTest: " + wrong + " faults");
    if (wrong != 0) System.exit(1);
  }
}
