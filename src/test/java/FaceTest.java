import java.lang.reflect.Constructor;
import java.lang.reflect.Field;
import java.lang.reflect.Method;
import java.lang.reflect.Modifier;
import java.nio.file.Files;
import java.nio.file.Path;
import java.util.ArrayList;
import java.util.List;
import java.util.Map;
import java.util.Set;
import java.util.TreeSet;
import java.util.regex.Matcher;
import java.util.regex.Pattern;

/** The class has the document's face and no other, and keeps to what LANGUAGE.md leaves of Java. */
public final class FaceTest {
  private static final Path SOURCE = Path.of("src/main/java/DivisionHall.java");
  private static final Path DOCUMENT = Path.of("../shared/DOC.md");
  private static final int DEEPEST = 8;
  private static final Set<String> LIBRARY = Set.of("Arrays.fill", "Arrays.copyOf", "Arrays.copyOfRange", "System.arraycopy",
    "Integer.bitCount", "Math.max", "Math.min", "Math.abs");
  private static int wrong = 0;
  /** The methods that the document's face names, as "int of(int,int)". */
  private static final Set<String> FACE = new TreeSet<>();

  private static void check(boolean good, String what) {
    if (good) return;
    wrong++;
    System.out.println("FaceTest: " + what);
  }

  private static void readFace() throws Exception {
    Pattern method = Pattern.compile("    public (\\w+ \\w+)\\((.*)\\);");
    for (String line : Files.readAllLines(DOCUMENT)) {
      Matcher m = method.matcher(line);
      if (m.matches()) FACE.add(m.group(1) + "(" + m.group(2).replaceAll(" \\w+(, |$)", "$1").replace(", ", ",") + ")");
    }
    check(FACE.size() == 26, "the document's face has 26 methods, read were " + FACE);
  }

  private static String signature(Method m) {
    StringBuilder b = new StringBuilder(m.getReturnType().getName()).append(' ').append(m.getName()).append('(');
    String between = "";
    for (Class<?> p : m.getParameterTypes()) {
      b.append(between).append(p.getName());
      between = ",";
    }
    return b.append(')').toString();
  }

  private static void face() throws Exception {
    Class<?> c = DivisionHall.class;
    check(Modifier.isPublic(c.getModifiers()) && Modifier.isFinal(c.getModifiers()), "the class is public and final");
    Set<String> open = new TreeSet<>();
    for (Method m : c.getDeclaredMethods()) {
      if (Modifier.isPublic(m.getModifiers()) && !Modifier.isStatic(m.getModifiers())) open.add(signature(m));
      else check(Modifier.isPrivate(m.getModifiers()), "private: " + m);
    }
    check(open.equals(FACE), "the public methods are " + open);
    for (Field f : c.getDeclaredFields()) check(f.getName().equals("NONE") || Modifier.isPrivate(f.getModifiers()), "private: " + f);
    int none = Modifier.PUBLIC | Modifier.STATIC | Modifier.FINAL;
    check(c.getDeclaredField("NONE").getModifiers() == none && c.getDeclaredField("NONE").getType() == int.class, "NONE");
    Constructor<?>[] all = c.getDeclaredConstructors();
    check(all.length == 1 && Modifier.isPublic(all[0].getModifiers()) && all[0].getParameterCount() == 0, "the constructor");
  }

  private static void classes() {
    List<Class<?>> all = new ArrayList<>(List.of(DivisionHall.class.getDeclaredClasses()));
    for (Class<?> c : all) {
      check(Modifier.isStatic(c.getModifiers()), "static: " + c);
      check(!Modifier.isPublic(c.getModifiers()) && !Modifier.isProtected(c.getModifiers()), "not public: " + c);
      check(c.getDeclaredClasses().length == 0, "no class inside: " + c);
    }
    all.add(DivisionHall.class);
    check(all.size() <= 12, "at most twelve classes: " + all.size());
    Set<String> names = new TreeSet<>();
    for (String s : FACE) names.add(s.substring(s.indexOf(' ') + 1, s.indexOf('(')));
    for (Class<?> c : all) {
      int fields = 0;
      for (Field f : c.getDeclaredFields()) {
        boolean fixed = Modifier.isStatic(f.getModifiers());
        if (!fixed) fields++;
        check(!fixed || Modifier.isFinal(f.getModifiers()), "static fields are final: " + f);
      }
      check(fields <= 20, "at most twenty fields: " + c + " has " + fields);
      for (Method m : c.getDeclaredMethods()) {
        check(m.getParameterCount() <= 7, "at most seven parameters: " + m);
        check(Modifier.isPublic(m.getModifiers()) || !names.contains(m.getName()), "no other method of a public one's name: " + m);
      }
    }
  }

  private static void words(String code) {
    String[] forbidden = {"throw", "throws", "try", "catch", "finally", "synchronized", "assert", "double", "float", "Object", "var", "volatile", "native", "interface"};
    for (String word : forbidden) check(!Pattern.compile("\\b" + word + "\\b").matcher(code).find(), "no " + word);
    check(!code.contains("->") && !code.contains("::") && !code.contains("package "), "no lambda, method reference, package");
    check(!code.contains("@"), "no annotation");
    Matcher imports = Pattern.compile("import ([^;]*);").matcher(code);
    while (imports.find()) check(imports.group(1).equals("java.util.Arrays"), "no import of " + imports.group(1));
    Matcher calls = Pattern.compile("\\b(Arrays|System|Integer|Long|Math)\\.(\\w+)").matcher(code);
    while (calls.find()) {
      String call = calls.group();
      check(call.equals("java.util.Arrays") || LIBRARY.contains(call), "of the library: " + call);
    }
    check(!Pattern.compile("\\bstatic\\s*\\{").matcher(code).find(), "no static initialiser block");
    check(!Pattern.compile("while\\s*\\(\\s*true").matcher(code).find(), "no loop without an end");
  }

  /** Rows are made with their objects and used again: new stands in fields and constructors alone. */
  private static void nothingMadeByCalls(List<String> lines) {
    String method = "";
    int from = 0;
    for (int i = 0; i < lines.size(); i++) {
      String line = lines.get(i);
      Matcher start = Pattern.compile("^(    |        )(?:public |private |static |final )*(?:[\\w\\[\\]]+ )?(\\w+)\\(.*").matcher(line);
      if (start.matches() && !line.endsWith(";") && !line.contains("=")) {
        method = start.group(2);
        from = i;
      } else if (line.matches("^(    |        )\\}")) {
        check(i - from + 1 <= 60 || method.isEmpty(), "at most sixty lines: " + method);
        method = "";
      }
      boolean constructor = !method.isEmpty() && Character.isUpperCase(method.charAt(0));
      if (line.contains("new ")) check(method.isEmpty() || constructor, "nothing is made by a call: line " + (i + 1));
    }
  }

  /** How many methods of the class stand open at most, this one counted. */
  private static int depth(String method, Map<String, Set<String>> calls, List<String> open) {
    if (open.contains(method)) {
      check(false, "no method comes back to itself: " + open + " " + method);
      return 0;
    }
    List<String> now = new ArrayList<>(open);
    now.add(method);
    int deepest = 0;
    for (String next : calls.get(method)) if (calls.containsKey(next)) deepest = Math.max(deepest, depth(next, calls, now));
    return deepest + 1;
  }

  private static void depths() throws Exception {
    Map<String, Set<String>> calls = Calls.of(SOURCE);
    check(calls.size() > 100 && calls.get("DivisionHall.rule(int)").size() > 2, "the calls could be read");
    for (String method : calls.keySet()) {
      int depth = depth(method, calls, List.of());
      check(depth <= DEEPEST, "calls go at most " + DEEPEST + " deep: " + method + " goes " + depth);
    }
  }

  public static void main(String[] args) throws Exception {
    readFace();
    depths();
    face();
    classes();
    String source = Files.readString(SOURCE);
    for (int i = 0; i < source.length(); i++) check(source.charAt(i) < 127, "a sign above 126 at " + i);
    // comments may say any word; line ends stay, so that lines keep their numbers
    String code = Pattern.compile("/\\*.*?\\*/", Pattern.DOTALL).matcher(source).replaceAll(m -> m.group().replaceAll("[^\n]", ""));
    code = code.replaceAll("//[^\n]*", "").replaceAll("\"[^\"\n]*\"", "\"\"").replaceAll("'[^'\n]+'", "' '");
    words(code);
    nothingMadeByCalls(List.of(code.split("\n")));
    System.out.println(wrong == 0 ? "FaceTest: the class keeps to its face and its rules" : "FaceTest: " + wrong + " faults");
    if (wrong != 0) System.exit(1);
  }
}
