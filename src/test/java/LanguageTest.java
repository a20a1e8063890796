import com.sun.source.tree.BinaryTree;
import com.sun.source.tree.ClassTree;
import com.sun.source.tree.CompilationUnitTree;
import com.sun.source.tree.LambdaExpressionTree;
import com.sun.source.tree.MemberReferenceTree;
import com.sun.source.tree.MethodInvocationTree;
import com.sun.source.tree.MethodTree;
import com.sun.source.tree.NewArrayTree;
import com.sun.source.tree.NewClassTree;
import com.sun.source.tree.ThrowTree;
import com.sun.source.tree.Tree;
import com.sun.source.tree.TryTree;
import com.sun.source.tree.TypeCastTree;
import com.sun.source.tree.VariableTree;
import com.sun.source.util.JavacTask;
import com.sun.source.util.TreePathScanner;
import com.sun.source.util.Trees;
import java.io.File;
import java.util.HashMap;
import java.util.LinkedHashSet;
import java.util.List;
import java.util.Map;
import java.util.Set;
import javax.lang.model.element.Element;
import javax.lang.model.element.ExecutableElement;
import javax.lang.model.element.Modifier;
import javax.tools.JavaCompiler;
import javax.tools.StandardJavaFileManager;
import javax.tools.ToolProvider;

/** The rules of LANGUAGE.md that can be seen in the source: what the class uses, how long and how deep it is. */
public final class LanguageTest extends TreePathScanner<Void, ExecutableElement> {
  private static final String SOURCE = "src/main/java/RecordBridge.java";
  private static final Set<String> LIBRARY = Set.of(
      "java.lang.String.length", "java.lang.String.charAt", "java.lang.Math.min", "java.lang.Math.max",
      "java.lang.Math.floorMod", "java.lang.Integer.bitCount", "java.lang.System.arraycopy",
      "java.util.Arrays.fill");
  private static final Set<String> STATIC_TYPES =
      Set.of("int", "long", "boolean", "char", "String", "int[]", "long[]", "char[]", "byte[]");
  private static final int MOST_LINES = 60;
  private static final int MOST_PARAMETERS = 7;
  private static final int MOST_CALLS = 8;
  private static final int MOST_CLASSES = 12;
  private static final int MOST_FIELDS = 20;

  private final Checks checks = new Checks();
  private final Trees trees;
  private final CompilationUnitTree unit;
  private final Map<ExecutableElement, Set<ExecutableElement>> calls = new HashMap<>();
  private int classes;

  private LanguageTest(Trees trees, CompilationUnitTree unit) {
    this.trees = trees;
    this.unit = unit;
  }

  public static void main(String[] args) throws Exception {
    JavaCompiler compiler = ToolProvider.getSystemJavaCompiler();
    try (StandardJavaFileManager files = compiler.getStandardFileManager(null, null, null)) {
      JavacTask task = (JavacTask) compiler.getTask(null, files, null, List.of("--release", "17", "-proc:none"), null,
          files.getJavaFileObjects(new File(SOURCE)));
      CompilationUnitTree unit = task.parse().iterator().next();
      task.analyze();
      LanguageTest test = new LanguageTest(Trees.instance(task), unit);
      test.scan(unit, null);
      test.close();
    }
  }

  private void close() {
    checks.due("no package", unit.getPackageName() == null, true);
    due("classes in the file", classes, MOST_CLASSES);
    for (ExecutableElement method : calls.keySet()) {
      due("calls one in the other from " + method, depth(method, new LinkedHashSet<>()), MOST_CALLS);
    }
    checks.close("LanguageTest");
  }

  private void due(String what, long got, long most) {
    checks.due(what + ": " + got + " of " + most, got <= most, true);
  }

  private void refuse(String what, Tree tree) {
    long line = unit.getLineMap().getLineNumber(trees.getSourcePositions().getStartPosition(unit, tree));
    checks.due(what + " in line " + line, false, true);
  }

  /** How many calls stand open at the most, this one too; recursion is not in the class. */
  private int depth(ExecutableElement method, Set<ExecutableElement> open) {
    if (!open.add(method)) {
      checks.due("recursion through " + open, false, true);
      return 0;
    }
    int deepest = 0;
    for (ExecutableElement called : calls.getOrDefault(method, Set.of())) {
      deepest = Math.max(deepest, depth(called, open));
    }
    open.remove(method);
    return deepest + 1;
  }

  private int lines(Tree tree) {
    long begin = trees.getSourcePositions().getStartPosition(unit, tree);
    long end = trees.getSourcePositions().getEndPosition(unit, tree);
    return (int) (unit.getLineMap().getLineNumber(end) - unit.getLineMap().getLineNumber(begin) + 1);
  }

  private boolean isOwn(Element element) {
    for (Element at = element; at != null; at = at.getEnclosingElement()) {
      if (at.getSimpleName().contentEquals("RecordBridge")) {
        return true;
      }
    }
    return false;
  }

  private void called(Element element, ExecutableElement from, Tree tree) {
    if (!(element instanceof ExecutableElement method)) {
      refuse("an unknown call", tree);
    } else if (isOwn(method)) {
      calls.computeIfAbsent(method, key -> new LinkedHashSet<>());
      if (from != null) {
        calls.computeIfAbsent(from, key -> new LinkedHashSet<>()).add(method);
      }
    } else {
      String name = method.getEnclosingElement() + "." + method.getSimpleName();
      boolean isSuper = name.startsWith("java.lang.Object.");
      checks.due("library: " + name, isSuper || LIBRARY.contains(name), true);
      if (!isSuper && from != null) {
        calls.computeIfAbsent(from, key -> new LinkedHashSet<>()).add(method);
      }
    }
  }

  @Override
  public Void visitClass(ClassTree tree, ExecutableElement method) {
    classes++;
    int fields = 0;
    for (Tree member : tree.getMembers()) {
      if (member instanceof VariableTree field) {
        Set<Modifier> flags = field.getModifiers().getFlags();
        if (flags.contains(Modifier.STATIC)) {
          boolean constant = flags.contains(Modifier.FINAL) && STATIC_TYPES.contains(field.getType().toString());
          checks.due("static field " + field.getName(), constant, true);
        } else {
          fields++;
        }
      } else if (!(member instanceof MethodTree) && !(member instanceof ClassTree)) {
        refuse("an initialiser", member);
      }
    }
    due("fields of " + tree.getSimpleName(), fields, MOST_FIELDS);
    return super.visitClass(tree, method);
  }

  @Override
  public Void visitMethod(MethodTree tree, ExecutableElement outer) {
    due("lines of " + tree.getName(), lines(tree), MOST_LINES);
    due("parameters of " + tree.getName(), tree.getParameters().size(), MOST_PARAMETERS);
    ExecutableElement method = (ExecutableElement) trees.getElement(getCurrentPath());
    calls.computeIfAbsent(method, key -> new LinkedHashSet<>());
    return super.visitMethod(tree, method);
  }

  @Override
  public Void visitMethodInvocation(MethodInvocationTree tree, ExecutableElement method) {
    called(trees.getElement(getCurrentPath()), method, tree);
    return super.visitMethodInvocation(tree, method);
  }

  /** What a run makes is counted, so that all is made with the object; outside methods stand the fields. */
  private void made(ExecutableElement method, Tree tree) {
    if (method != null && !method.getSimpleName().contentEquals("<init>")) {
      refuse("an object made by " + method, tree);
    }
  }

  @Override
  public Void visitNewArray(NewArrayTree tree, ExecutableElement method) {
    made(method, tree);
    return super.visitNewArray(tree, method);
  }

  @Override
  public Void visitNewClass(NewClassTree tree, ExecutableElement method) {
    made(method, tree);
    called(trees.getElement(getCurrentPath()), method, tree);
    return super.visitNewClass(tree, method);
  }

  @Override
  public Void visitLambdaExpression(LambdaExpressionTree tree, ExecutableElement method) {
    refuse("a lambda", tree);
    return null;
  }

  @Override
  public Void visitMemberReference(MemberReferenceTree tree, ExecutableElement method) {
    refuse("a method reference", tree);
    return null;
  }

  @Override
  public Void visitTry(TryTree tree, ExecutableElement method) {
    refuse("a try, which no promise needs", tree);
    return null;
  }

  @Override
  public Void visitThrow(ThrowTree tree, ExecutableElement method) {
    refuse("a throw, which no promise names", tree);
    return null;
  }

  @Override
  public Void visitTypeCast(TypeCastTree tree, ExecutableElement method) {
    checks.due("a cast among numbers", tree.getType() instanceof com.sun.source.tree.PrimitiveTypeTree, true);
    return super.visitTypeCast(tree, method);
  }

  @Override
  public Void visitBinary(BinaryTree tree, ExecutableElement method) {
    boolean texts = tree.getKind() == Tree.Kind.PLUS && trees.getTypeMirror(getCurrentPath()) != null
        && trees.getTypeMirror(getCurrentPath()).toString().equals("java.lang.String");
    checks.due("texts joined by +", texts, false);
    return super.visitBinary(tree, method);
  }
}
