import java.lang.reflect.Constructor;
import java.lang.reflect.Field;
import java.lang.reflect.Method;
import java.lang.reflect.Modifier;
import java.nio.file.Files;
import java.nio.file.Path;
import java.util.ArrayList;
import java.util.List;
import java.util.Set;
import java.util.TreeSet;
import java.util.regex.Matcher;
import java.util.regex.Pattern;

/** The class has the document's face and no other, and keeps to what LANGUAGE.md leaves of Java. */
public final class FaceTest {
  private static final Path SOURCE = Path.of("src/main/java/DivisionHall.java");
  private static final String[] FACE = {
    "int member()", "boolean shift(int,int,int,int,int)", "boolean view(int,int)", "int of(int,int)", "int look(int)",
    "int feed(int,int,int,int,int)", "boolean end(int)", "boolean rule(int)", "int fault(int)", "int carries(int,int)",
    "int leasts(int,int)", "int least(int,int,int)", "long power(int,int,int)", "int odd(int,int)", "int worth(int,int,int)",
    "int trade(int,int)", "int days(int,int,int,int,int)", "boolean wish(int,int)", "int support(int,int)",
    "int agenda(int,int,boolean)", "int through(int,int,int,boolean,int)", "int best(int,int)", "boolean line(int,int)",
    "int coalition(int,int)", "boolean value(int,int,int)", "int deal(int,int,int,boolean,int)"};
  private static final Set<String> LIBRARY = Set.of("Arrays.fill", "Arrays.copyOf", "Arrays.copyOfRange", "System.arraycopy",
    "Integer.bitCount", "Math.max", "Math.min", "Math.abs");
  private static int wrong = 0;

  private static void check(boolean good, String what) {
    if (good) return;
    wrong++;
    System.out.println("FaceTest: " + what);
  }

  private static String signature(Method m) {
    StringBuilder b = new StringBuilder(m.getReturnType().getName()).append(' ').append(m.getName()).append('(');
    String between = "";
    for (Class<?> p : m.getParameterTypes()) {
      b.append(between).append(p.getName());
      between = ",";
    }
    return b.append(')').toString();
  }

  private static void face() throws Exception {
    Class<?> c = DivisionHall.class;
    check(Modifier.isPublic(c.getModifiers()) && Modifier.isFinal(c.getModifiers()), "the class is public and final");
    Set<String> open = new TreeSet<>();
    for (Method m : c.getDeclaredMethods()) {
      if (Modifier.isPublic(m.getModifiers()) && !Modifier.isStatic(m.getModifiers())) open.add(signature(m));
      else check(Modifier.isPrivate(m.getModifiers()), "private: " + m);
    }
    check(open.equals(new TreeSet<>(List.of(FACE))), "the public methods are " + open);
    for (Field f : c.getDeclaredFields()) check(f.getName().equals("NONE") || Modifier.isPrivate(f.getModifiers()), "private: " + f);
    int none = Modifier.PUBLIC | Modifier.STATIC | Modifier.FINAL;
    check(c.getDeclaredField("NONE").getModifiers() == none && c.getDeclaredField("NONE").getType() == int.class, "NONE");
    Constructor<?>[] all = c.getDeclaredConstructors();
    check(all.length == 1 && Modifier.isPublic(all[0].getModifiers()) && all[0].getParameterCount() == 0, "the constructor");
  }

  private static void classes() {
    List<Class<?>> all = new ArrayList<>(List.of(DivisionHall.class.getDeclaredClasses()));
    for (Class<?> c : all) {
      check(Modifier.isStatic(c.getModifiers()), "static: " + c);
      check(!Modifier.isPublic(c.getModifiers()) && !Modifier.isProtected(c.getModifiers()), "not public: " + c);
      check(c.getDeclaredClasses().length == 0, "no class inside: " + c);
    }
    all.add(DivisionHall.class);
    check(all.size() <= 12, "at most twelve classes: " + all.size());
    Set<String> names = new TreeSet<>();
    for (String s : FACE) names.add(s.substring(s.indexOf(' ') + 1, s.indexOf('(')));
    for (Class<?> c : all) {
      int fields = 0;
      for (Field f : c.getDeclaredFields()) {
        boolean fixed = Modifier.isStatic(f.getModifiers());
        if (!fixed) fields++;
        check(!fixed || Modifier.isFinal(f.getModifiers()), "static fields are final: " + f);
      }
      check(fields <= 20, "at most twenty fields: " + c + " has " + fields);
      for (Method m : c.getDeclaredMethods()) {
        check(m.getParameterCount() <= 7, "at most seven parameters: " + m);
        check(Modifier.isPublic(m.getModifiers()) || !names.contains(m.getName()), "no other method of a public one's name: " + m);
      }
    }
  }

  private static void words(String code) {
    String[] forbidden = {"throw", "throws", "try", "catch", "finally", "synchronized", "assert", "double", "float", "Object", "var", "volatile", "native", "interface"};
    for (String word : forbidden) check(!Pattern.compile("\\b" + word + "\\b").matcher(code).find(), "no " + word);
    check(!code.contains("->") && !code.contains("::") && !code.contains("package "), "no lambda, method reference, package");
    check(!code.contains("@"), "no annotation");
    Matcher imports = Pattern.compile("import ([^;]*);").matcher(code);
    while (imports.find()) check(imports.group(1).equals("java.util.Arrays"), "no import of " + imports.group(1));
    Matcher calls = Pattern.compile("\\b(Arrays|System|Integer|Long|Math)\\.(\\w+)").matcher(code);
    while (calls.find()) {
      String call = calls.group();
      check(call.equals("java.util.Arrays") || LIBRARY.contains(call), "of the library: " + call);
    }
    check(!Pattern.compile("\\bstatic\\s*\\{").matcher(code).find(), "no static initialiser block");
    check(!Pattern.compile("while\\s*\\(\\s*true").matcher(code).find(), "no loop without an end");
  }

  /** Rows are made with their objects and used again: new stands in fields and constructors alone. */
  private static void nothingMadeByCalls(List<String> lines) {
    String method = "";
    int from = 0;
    for (int i = 0; i < lines.size(); i++) {
      String line = lines.get(i);
      Matcher start = Pattern.compile("^(    |        )(?:public |private |static |final )*(?:[\\w\\[\\]]+ )?(\\w+)\\(.*").matcher(line);
      if (start.matches() && !line.endsWith(";") && !line.contains("=")) {
        method = start.group(2);
        from = i;
      } else if (line.matches("^(    |        )\\}")) {
        check(i - from + 1 <= 60 || method.isEmpty(), "at most sixty lines: " + method);
        method = "";
      }
      boolean constructor = !method.isEmpty() && Character.isUpperCase(method.charAt(0));
      if (line.contains("new ")) check(method.isEmpty() || constructor, "nothing is made by a call: line " + (i + 1));
    }
  }

  public static void main(String[] args) throws Exception {
    face();
    classes();
    String source = Files.readString(SOURCE);
    for (int i = 0; i < source.length(); i++) check(source.charAt(i) < 127, "a sign above 126 at " + i);
    // comments may say any word; line ends stay, so that lines keep their numbers
    String code = Pattern.compile("/\\*.*?\\*/", Pattern.DOTALL).matcher(source).replaceAll(m -> m.group().replaceAll("[^\n]", ""));
    code = code.replaceAll("//[^\n]*", "").replaceAll("\"[^\"\n]*\"", "\"\"").replaceAll("'[^'\n]+'", "' '");
    words(code);
    nothingMadeByCalls(List.of(code.split("\n")));
    System.out.println(wrong == 0 ? "FaceTest: the class keeps to its face and its rules" : "FaceTest: " + wrong + " faults");
    if (wrong != 0) System.exit(1);
  }
}
