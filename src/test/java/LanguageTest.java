import com.sun.source.tree.BinaryTree;
import com.sun.source.tree.ClassTree;
import com.sun.source.tree.CompilationUnitTree;
import com.sun.source.tree.CompoundAssignmentTree;
import com.sun.source.tree.DoWhileLoopTree;
import com.sun.source.tree.EnhancedForLoopTree;
import com.sun.source.tree.ExpressionTree;
import com.sun.source.tree.ForLoopTree;
import com.sun.source.tree.InstanceOfTree;
import com.sun.source.tree.LambdaExpressionTree;
import com.sun.source.tree.LiteralTree;
import com.sun.source.tree.MemberReferenceTree;
import com.sun.source.tree.MethodInvocationTree;
import com.sun.source.tree.MethodTree;
import com.sun.source.tree.NewArrayTree;
import com.sun.source.tree.NewClassTree;
import com.sun.source.tree.ThrowTree;
import com.sun.source.tree.Tree;
import com.sun.source.tree.TryTree;
import com.sun.source.tree.TypeCastTree;
import com.sun.source.tree.VariableTree;
import com.sun.source.tree.WhileLoopTree;
import com.sun.source.util.JavacTask;
import com.sun.source.util.TreePathScanner;
import com.sun.source.util.Trees;
import java.io.File;
import java.util.HashMap;
import java.util.LinkedHashSet;
import java.util.List;
import java.util.Map;
import java.util.Set;
import java.util.regex.Pattern;
import javax.lang.model.element.Element;
import javax.lang.model.element.ExecutableElement;
import javax.lang.model.element.Modifier;
import javax.tools.JavaCompiler;
import javax.tools.StandardJavaFileManager;
import javax.tools.ToolProvider;

/** The rules of LANGUAGE.md that can be seen in the source: what the class uses, how long and how deep it is. */
public final class LanguageTest extends TreePathScanner<Void, ExecutableElement> {
  private static final String SOURCE = "src/main/java/RecordBridge.java";
  private static final Set<String> LIBRARY = Set.of(
      "java.lang.String.length", "java.lang.String.charAt", "java.lang.Math.min", "java.lang.Math.max",
      "java.lang.Math.floorMod", "java.lang.Integer.bitCount", "java.lang.System.arraycopy",
      "java.util.Arrays.fill");
  private static final Set<String> STATIC_TYPES =
      Set.of("int", "long", "boolean", "char", "String", "int[]", "long[]", "char[]", "byte[]");
  private static final Set<String> NUMBERS =
      Set.of("int", "long", "short", "byte", "char", "boolean", "double", "float");
  private static final Set<Modifier> OUTSIDE =
      Set.of(Modifier.NATIVE, Modifier.SYNCHRONIZED, Modifier.STRICTFP, Modifier.TRANSIENT, Modifier.VOLATILE);
  /** A bound that a count is set against: no loop goes on by a reference or a flag alone. */
  private static final Pattern BOUND = Pattern.compile(".*[^<>](<|<=|>|>=) .*");
  private static final int MOST_LINES = 60;
  private static final int MOST_PARAMETERS = 7;
  private static final int MOST_CALLS = 8;
  private static final int MOST_CLASSES = 12;
  private static final int MOST_FIELDS = 20;

  private final Checks checks = new Checks();
  private final Trees trees;
  private final CompilationUnitTree unit;
  private final Set<String> names = new LinkedHashSet<>();
  private final Map<ExecutableElement, Set<ExecutableElement>> calls = new HashMap<>();
  private int classes;

  private LanguageTest(Trees trees, CompilationUnitTree unit) {
    this.trees = trees;
    this.unit = unit;
    for (Tree outer : unit.getTypeDecls()) {
      for (Tree member : ((ClassTree) outer).getMembers()) {
        if (member instanceof ClassTree inside) {
          names.add(inside.getSimpleName().toString());
        }
      }
    }
  }

  public static void main(String[] args) throws Exception {
    JavaCompiler compiler = ToolProvider.getSystemJavaCompiler();
    try (StandardJavaFileManager files = compiler.getStandardFileManager(null, null, null)) {
      JavacTask task = (JavacTask) compiler.getTask(null, files, null, List.of("--release", "17", "-proc:none"), null,
          files.getJavaFileObjects(new File(SOURCE)));
      CompilationUnitTree unit = task.parse().iterator().next();
      task.analyze();
      LanguageTest test = new LanguageTest(Trees.instance(task), unit);
      test.scan(unit, null);
      test.close();
    }
  }

  private void close() {
    checks.due("no package", unit.getPackageName() == null, true);
    checks.due("classes beside the public one", unit.getTypeDecls().size(), 1);
    due("classes in the file", classes, MOST_CLASSES);
    for (ExecutableElement method : calls.keySet()) {
      due("calls one in the other from " + method, depth(method, new LinkedHashSet<>()), MOST_CALLS);
    }
    checks.close("LanguageTest");
  }

  private void due(String what, long got, long most) {
    checks.due(what + ": " + got + " of " + most, got <= most, true);
  }

  private void refuse(String what, Tree tree) {
    long line = unit.getLineMap().getLineNumber(trees.getSourcePositions().getStartPosition(unit, tree));
    checks.due(what + " in line " + line, false, true);
  }

  /** How many calls stand open at the most, this one too; recursion is not in the class. */
  private int depth(ExecutableElement method, Set<ExecutableElement> open) {
    if (!open.add(method)) {
      checks.due("recursion through " + open, false, true);
      return 0;
    }
    int deepest = 0;
    for (ExecutableElement called : calls.getOrDefault(method, Set.of())) {
      deepest = Math.max(deepest, depth(called, open));
    }
    open.remove(method);
    return deepest + 1;
  }

  private int lines(Tree tree) {
    long begin = trees.getSourcePositions().getStartPosition(unit, tree);
    long end = trees.getSourcePositions().getEndPosition(unit, tree);
    return (int) (unit.getLineMap().getLineNumber(end) - unit.getLineMap().getLineNumber(begin) + 1);
  }

  /** Whether a type is a number, a text, a class of the file, or a row of these; tables are of numbers alone. */
  private boolean isLanguageType(String type) {
    String base = type.replace("[]", "");
    int dimensions = (type.length() - base.length()) / 2;
    if (NUMBERS.contains(base)) {
      return dimensions <= 2;
    }
    return dimensions <= 1 && (base.equals("String") && dimensions == 0 || names.contains(base));
  }

  private void dueType(Tree type, Tree where) {
    if (type != null && !type.toString().equals("void") && !isLanguageType(type.toString())) {
      refuse("a type outside the language: " + type, where);
    }
  }

  private void dueFlags(Set<Modifier> flags, Tree where) {
    for (Modifier flag : flags) {
      if (OUTSIDE.contains(flag)) {
        refuse("outside the language: " + flag, where);
      }
    }
  }

  private void dueBound(ExpressionTree condition, Tree loop) {
    if (condition == null || !BOUND.matcher(condition.toString()).matches()) {
      refuse("a loop without a bound: " + condition, loop);
    }
  }

  private boolean isReal(Tree tree) {
    String type = String.valueOf(trees.getTypeMirror(trees.getPath(unit, tree)));
    return type.equals("double") || type.equals("float");
  }

  private boolean isOwn(Element element) {
    for (Element at = element; at != null; at = at.getEnclosingElement()) {
      if (at.getSimpleName().contentEquals("RecordBridge")) {
        return true;
      }
    }
    return false;
  }

  private void called(Element element, ExecutableElement from, Tree tree) {
    if (!(element instanceof ExecutableElement method)) {
      refuse("an unknown call", tree);
    } else if (isOwn(method)) {
      calls.computeIfAbsent(method, key -> new LinkedHashSet<>());
      if (from != null) {
        calls.computeIfAbsent(from, key -> new LinkedHashSet<>()).add(method);
      }
    } else {
      String name = method.getEnclosingElement() + "." + method.getSimpleName();
      boolean isSuper = name.startsWith("java.lang.Object.");
      checks.due("library: " + name, isSuper || LIBRARY.contains(name), true);
      if (!isSuper && from != null) {
        calls.computeIfAbsent(from, key -> new LinkedHashSet<>()).add(method);
      }
    }
  }

  @Override
  public Void visitClass(ClassTree tree, ExecutableElement method) {
    classes++;
    int fields = 0;
    for (Tree member : tree.getMembers()) {
      if (member instanceof VariableTree field) {
        Set<Modifier> flags = field.getModifiers().getFlags();
        if (flags.contains(Modifier.STATIC)) {
          boolean constant = flags.contains(Modifier.FINAL) && STATIC_TYPES.contains(field.getType().toString());
          checks.due("static field " + field.getName(), constant, true);
        } else {
          fields++;
        }
      } else if (!(member instanceof MethodTree) && !(member instanceof ClassTree)) {
        refuse("an initialiser", member);
      }
    }
    due("fields of " + tree.getSimpleName(), fields, MOST_FIELDS);
    return super.visitClass(tree, method);
  }

  @Override
  public Void visitMethod(MethodTree tree, ExecutableElement outer) {
    due("lines of " + tree.getName(), lines(tree), MOST_LINES);
    due("parameters of " + tree.getName(), tree.getParameters().size(), MOST_PARAMETERS);
    dueType(tree.getReturnType(), tree);
    dueFlags(tree.getModifiers().getFlags(), tree);
    ExecutableElement method = (ExecutableElement) trees.getElement(getCurrentPath());
    calls.computeIfAbsent(method, key -> new LinkedHashSet<>());
    return super.visitMethod(tree, method);
  }

  @Override
  public Void visitMethodInvocation(MethodInvocationTree tree, ExecutableElement method) {
    called(trees.getElement(getCurrentPath()), method, tree);
    return super.visitMethodInvocation(tree, method);
  }

  /** What a run makes is counted, so that all is made with the object; outside methods stand the fields. */
  private void made(ExecutableElement method, Tree tree) {
    if (method != null && !method.getSimpleName().contentEquals("<init>")) {
      refuse("an object made by " + method, tree);
    }
  }

  @Override
  public Void visitNewArray(NewArrayTree tree, ExecutableElement method) {
    made(method, tree);
    return super.visitNewArray(tree, method);
  }

  @Override
  public Void visitNewClass(NewClassTree tree, ExecutableElement method) {
    made(method, tree);
    called(trees.getElement(getCurrentPath()), method, tree);
    return super.visitNewClass(tree, method);
  }

  @Override
  public Void visitVariable(VariableTree tree, ExecutableElement method) {
    dueType(tree.getType(), tree);
    dueFlags(tree.getModifiers().getFlags(), tree);
    return super.visitVariable(tree, method);
  }

  @Override
  public Void visitLiteral(LiteralTree tree, ExecutableElement method) {
    if (tree.getValue() instanceof String text) {
      boolean plain = text.chars().allMatch(sign -> sign >= 1 && sign <= 127);
      checks.due("signs of a text", plain, true);
    }
    return super.visitLiteral(tree, method);
  }

  @Override
  public Void visitForLoop(ForLoopTree tree, ExecutableElement method) {
    dueBound(tree.getCondition(), tree);
    return super.visitForLoop(tree, method);
  }

  @Override
  public Void visitWhileLoop(WhileLoopTree tree, ExecutableElement method) {
    dueBound(tree.getCondition(), tree);
    return super.visitWhileLoop(tree, method);
  }

  @Override
  public Void visitDoWhileLoop(DoWhileLoopTree tree, ExecutableElement method) {
    dueBound(tree.getCondition(), tree);
    return super.visitDoWhileLoop(tree, method);
  }

  @Override
  public Void visitEnhancedForLoop(EnhancedForLoopTree tree, ExecutableElement method) {
    refuse("a loop that may make an iterator", tree);
    return super.visitEnhancedForLoop(tree, method);
  }

  @Override
  public Void visitInstanceOf(InstanceOfTree tree, ExecutableElement method) {
    refuse("an instanceof, which no class needs", tree);
    return super.visitInstanceOf(tree, method);
  }

  @Override
  public Void visitCompoundAssignment(CompoundAssignmentTree tree, ExecutableElement method) {
    boolean remainder = tree.getKind() == Tree.Kind.REMAINDER_ASSIGNMENT && isReal(tree.getVariable());
    checks.due("a remainder of reals", remainder, false);
    return super.visitCompoundAssignment(tree, method);
  }

  @Override
  public Void visitLambdaExpression(LambdaExpressionTree tree, ExecutableElement method) {
    refuse("a lambda", tree);
    return null;
  }

  @Override
  public Void visitMemberReference(MemberReferenceTree tree, ExecutableElement method) {
    refuse("a method reference", tree);
    return null;
  }

  @Override
  public Void visitTry(TryTree tree, ExecutableElement method) {
    refuse("a try, which no promise needs", tree);
    return null;
  }

  @Override
  public Void visitThrow(ThrowTree tree, ExecutableElement method) {
    refuse("a throw, which no promise names", tree);
    return null;
  }

  @Override
  public Void visitTypeCast(TypeCastTree tree, ExecutableElement method) {
    checks.due("a cast among numbers", tree.getType() instanceof com.sun.source.tree.PrimitiveTypeTree, true);
    return super.visitTypeCast(tree, method);
  }

  @Override
  public Void visitBinary(BinaryTree tree, ExecutableElement method) {
    boolean texts = tree.getKind() == Tree.Kind.PLUS && trees.getTypeMirror(getCurrentPath()) != null
        && trees.getTypeMirror(getCurrentPath()).toString().equals("java.lang.String");
    checks.due("texts joined by +", texts, false);
    checks.due("a remainder of reals", tree.getKind() == Tree.Kind.REMAINDER && isReal(tree), false);
    return super.visitBinary(tree, method);
  }
}
