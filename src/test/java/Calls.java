import com.sun.source.tree.ClassTree;
import com.sun.source.tree.CompilationUnitTree;
import com.sun.source.tree.MethodInvocationTree;
import com.sun.source.tree.MethodTree;
import com.sun.source.tree.NewClassTree;
import com.sun.source.util.JavacTask;
import com.sun.source.util.TreePathScanner;
import com.sun.source.util.Trees;
import java.io.IOException;
import java.nio.file.Path;
import java.util.List;
import java.util.Map;
import java.util.Set;
import java.util.TreeMap;
import java.util.TreeSet;
import javax.lang.model.element.Element;
import javax.tools.JavaCompiler;
import javax.tools.StandardJavaFileManager;
import javax.tools.ToolProvider;

/** Which methods each method of a source file calls, as the compiler sees them. */
final class Calls extends TreePathScanner<Void, Void> {
  private final Map<String, Set<String>> found = new TreeMap<>();
  private final Trees trees;
  private String from = "";

  private Calls(Trees trees) { this.trees = trees; }

  /** A method's name, as "DivisionHall.rule(int)", with those that it calls. */
  static Map<String, Set<String>> of(Path source) throws IOException {
    JavaCompiler compiler = ToolProvider.getSystemJavaCompiler();
    try (StandardJavaFileManager files = compiler.getStandardFileManager(null, null, null)) {
      JavacTask task = (JavacTask) compiler.getTask(null, files, null, List.of("-proc:none"), null, files.getJavaFileObjects(source));
      Iterable<? extends CompilationUnitTree> units = task.parse();
      task.analyze();
      Calls calls = new Calls(Trees.instance(task));
      calls.scan(units, null);
      return calls.found;
    }
  }

  private String name() {
    Element e = trees.getElement(getCurrentPath());
    return e.getEnclosingElement() + "." + e;
  }

  private void enter(String name) {
    from = name;
    found.putIfAbsent(name, new TreeSet<>());
  }

  /** What stands at a field is made ahead of the methods. */
  @Override
  public Void visitClass(ClassTree tree, Void none) {
    enter(tree.getSimpleName() + " itself");
    return super.visitClass(tree, none);
  }

  @Override
  public Void visitMethod(MethodTree tree, Void none) {
    enter(name());
    return super.visitMethod(tree, none);
  }

  @Override
  public Void visitMethodInvocation(MethodInvocationTree tree, Void none) {
    found.get(from).add(name());
    return super.visitMethodInvocation(tree, none);
  }

  @Override
  public Void visitNewClass(NewClassTree tree, Void none) {
    found.get(from).add(name());
    return super.visitNewClass(tree, none);
  }
}
