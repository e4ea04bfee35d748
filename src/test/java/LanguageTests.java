import com.sun.source.tree.ArrayTypeTree;
import com.sun.source.tree.AssertTree;
import com.sun.source.tree.BinaryTree;
import com.sun.source.tree.BlockTree;
import com.sun.source.tree.ClassTree;
import com.sun.source.tree.CompilationUnitTree;
import com.sun.source.tree.DoWhileLoopTree;
import com.sun.source.tree.ForLoopTree;
import com.sun.source.tree.LambdaExpressionTree;
import com.sun.source.tree.LiteralTree;
import com.sun.source.tree.MemberReferenceTree;
import com.sun.source.tree.MethodInvocationTree;
import com.sun.source.tree.MethodTree;
import com.sun.source.tree.NewArrayTree;
import com.sun.source.tree.NewClassTree;
import com.sun.source.tree.SynchronizedTree;
import com.sun.source.tree.ThrowTree;
import com.sun.source.tree.Tree;
import com.sun.source.tree.TryTree;
import com.sun.source.tree.TypeCastTree;
import com.sun.source.tree.VariableTree;
import com.sun.source.tree.WhileLoopTree;
import com.sun.source.util.JavacTask;
import com.sun.source.util.SourcePositions;
import com.sun.source.util.TreePath;
import com.sun.source.util.TreePathScanner;
import com.sun.source.util.Trees;
import java.nio.file.Path;
import java.util.ArrayDeque;
import java.util.ArrayList;
import java.util.Deque;
import java.util.HashSet;
import java.util.List;
import java.util.Map;
import java.util.Set;
import java.util.TreeMap;
import java.util.TreeSet;
import javax.lang.model.element.Element;
import javax.lang.model.element.ElementKind;
import javax.lang.model.element.Modifier;
import javax.tools.JavaCompiler;
import javax.tools.StandardJavaFileManager;
import javax.tools.ToolProvider;

/**
 * The rules of LANGUAGE.md that can be seen in the tree that the compiler makes of the class's source. In places this
 * asks more than they do, since the class can: no call makes an object, no cast, no divisor but constants.
 */
public final class LanguageTests {
  private static final int MOST_LINES = 60;
  private static final int MOST_PARAMETERS = 7;
  private static final int MOST_DEEP = 8;
  private static final int MOST_CLASSES = 12;
  private static final int MOST_FIELDS = 20;
  private static final Set<String> LIBRARY = Set.of("Arrays.fill", "Integer.bitCount", "Math.max", "Math.min",
      "System.arraycopy", "String.length", "String.charAt");
  private static int wrong = 0;

  private static void refuse(int rule, String what) {
    wrong++;
    System.out.println("rule " + rule + ": " + what);
  }

  private final Trees trees;
  private final CompilationUnitTree unit;
  /** Which methods of the file each method calls, by class and name. */
  private final Map<String, Set<String>> calls = new TreeMap<>();
  private int classes = 0;

  private LanguageTests(Trees trees, CompilationUnitTree unit) {
    this.trees = trees;
    this.unit = unit;
  }

  private final class Look extends TreePathScanner<Void, Void> {
    private final Deque<String> methods = new ArrayDeque<>();

    private String at(Tree tree) {
      return "line " + unit.getLineMap().getLineNumber(trees.getSourcePositions().getStartPosition(unit, tree));
    }

    private Element element() {
      return trees.getElement(getCurrentPath());
    }

    @Override public Void visitClass(ClassTree tree, Void none) {
      Tree around = getCurrentPath().getParentPath().getLeaf();
      boolean outer = around instanceof CompilationUnitTree;
      Set<Modifier> how = tree.getModifiers().getFlags();
      if (!outer && !(around instanceof ClassTree)) refuse(2, "a local or anonymous class at " + at(tree));
      if (!outer && !how.contains(Modifier.STATIC)) refuse(2, tree.getSimpleName() + " is not static");
      if (!outer && (how.contains(Modifier.PUBLIC) || how.contains(Modifier.PROTECTED))) refuse(1, tree.getSimpleName() + " is open");
      classes++;
      int fields = 0;
      for (Tree member : tree.getMembers()) {
        if (member instanceof BlockTree) refuse(5, "an initialiser block at " + at(member));
        if (member instanceof VariableTree && !isStatic((VariableTree) member)) fields++;
      }
      if (fields > MOST_FIELDS) refuse(11, tree.getSimpleName() + " has " + fields + " fields");
      return super.visitClass(tree, none);
    }

    private boolean isStatic(VariableTree field) {
      return field.getModifiers().getFlags().contains(Modifier.STATIC);
    }

    @Override public Void visitMethod(MethodTree tree, Void none) {
      SourcePositions places = trees.getSourcePositions();
      long lines = unit.getLineMap().getLineNumber(Math.max(0, places.getEndPosition(unit, tree)))
          - unit.getLineMap().getLineNumber(Math.max(0, places.getStartPosition(unit, tree))) + 1;
      if (lines > MOST_LINES) refuse(11, tree.getName() + " has " + lines + " lines");
      if (tree.getParameters().size() > MOST_PARAMETERS) refuse(11, tree.getName() + " has too many parameters");
      if (!tree.getThrows().isEmpty()) refuse(6, tree.getName() + " throws");
      methods.push(nameOf(element()));
      calls.put(methods.peek(), new TreeSet<>());
      super.visitMethod(tree, none);
      methods.pop();
      return null;
    }

    private String nameOf(Element method) {
      return method.getEnclosingElement().getSimpleName() + "." + method.getSimpleName();
    }

    private boolean ofThisFile(Element element) {
      TreePath path = trees.getPath(element);
      return path != null && path.getCompilationUnit() == unit;
    }

    @Override public Void visitMethodInvocation(MethodInvocationTree tree, Void none) {
      Element called = trees.getElement(new TreePath(getCurrentPath(), tree.getMethodSelect()));
      boolean superOfConstructor = called.getKind() == ElementKind.CONSTRUCTOR;
      if (ofThisFile(called)) {
        calls.get(methods.peek()).add(nameOf(called));
      } else if (!superOfConstructor && !LIBRARY.contains(nameOf(called))) {
        refuse(4, nameOf(called) + " at " + at(tree));
      }
      return super.visitMethodInvocation(tree, none);
    }

    @Override public Void visitNewClass(NewClassTree tree, Void none) {
      Element made = element();
      if (tree.getClassBody() != null) refuse(2, "an anonymous class at " + at(tree));
      if (!ofThisFile(made.getEnclosingElement())) refuse(4, "new " + tree.getIdentifier() + " at " + at(tree));
      if (methods.isEmpty() || !methods.peek().endsWith(".<init>")) refuse(12, "an object made by a call at " + at(tree));
      return super.visitNewClass(tree, none);
    }

    @Override public Void visitNewArray(NewArrayTree tree, Void none) {
      boolean byACall = !methods.isEmpty() && !methods.peek().endsWith(".<init>");
      if (byACall) refuse(12, "an array made by a call at " + at(tree));
      if (tree.getDimensions().size() > 1) refuse(3, "an array of several dimensions at " + at(tree));
      return super.visitNewArray(tree, none);
    }

    @Override public Void visitVariable(VariableTree tree, Void none) {
      Element variable = element();
      if (variable.getKind() == ElementKind.FIELD && variable.getModifiers().contains(Modifier.STATIC)) {
        if (!variable.getModifiers().contains(Modifier.FINAL)) refuse(5, tree.getName() + " is not final");
        if (!tree.getType().toString().equals("int")) refuse(5, tree.getName() + " is no constant of int");
      }
      boolean ownOrPlain = typeIsFine(tree.getType());
      if (!ownOrPlain) refuse(3, tree.getName() + " is of " + tree.getType() + " at " + at(tree));
      return super.visitVariable(tree, none);
    }

    private boolean typeIsFine(Tree type) {
      Tree inner = type instanceof ArrayTypeTree ? ((ArrayTypeTree) type).getType() : type;
      if (inner instanceof ArrayTypeTree) return false;
      String name = inner.toString();
      return name.equals("int") || name.equals("boolean") || name.equals("String")
          || ofThisFile(trees.getElement(TreePath.getPath(unit, inner)));
    }

    @Override public Void visitLiteral(LiteralTree tree, Void none) {
      String text = tree.getValue() instanceof String ? (String) tree.getValue()
          : tree.getValue() instanceof Character ? tree.getValue().toString() : "";
      for (char sign : text.toCharArray()) {
        if (sign < 1 || sign > 127) refuse(4, "a sign beyond 127 at " + at(tree));
      }
      return super.visitLiteral(tree, none);
    }

    @Override public Void visitBinary(BinaryTree tree, Void none) {
      boolean divides = tree.getKind() == Tree.Kind.DIVIDE || tree.getKind() == Tree.Kind.REMAINDER;
      if (divides && !tree.getRightOperand().toString().matches("[A-Z_]+|[1-9][0-9]*")) {
        refuse(7, "a divisor that is no constant at " + at(tree));
      }
      String type = String.valueOf(trees.getTypeMirror(getCurrentPath()));
      if (type.equals("java.lang.String")) refuse(10, "texts joined by + at " + at(tree));
      return super.visitBinary(tree, none);
    }

    private void loop(Tree tree, Tree condition) {
      boolean endless = condition == null || condition.toString().matches("\\(?true\\)?");
      if (endless) refuse(9, "a loop whose end is not seen at " + at(tree));
      else if (!condition.toString().matches("(?s).*[<>].*")) refuse(9, "a loop without a counter at " + at(tree));
    }

    @Override public Void visitWhileLoop(WhileLoopTree tree, Void none) {
      loop(tree, tree.getCondition());
      return super.visitWhileLoop(tree, none);
    }

    @Override public Void visitDoWhileLoop(DoWhileLoopTree tree, Void none) {
      loop(tree, tree.getCondition());
      return super.visitDoWhileLoop(tree, none);
    }

    @Override public Void visitForLoop(ForLoopTree tree, Void none) {
      loop(tree, tree.getCondition());
      return super.visitForLoop(tree, none);
    }

    @Override public Void visitThrow(ThrowTree tree, Void none) {
      refuse(6, "throw at " + at(tree));
      return super.visitThrow(tree, none);
    }

    @Override public Void visitTry(TryTree tree, Void none) {
      refuse(6, "try at " + at(tree));
      return super.visitTry(tree, none);
    }

    @Override public Void visitAssert(AssertTree tree, Void none) {
      refuse(6, "assert at " + at(tree));
      return super.visitAssert(tree, none);
    }

    @Override public Void visitSynchronized(SynchronizedTree tree, Void none) {
      refuse(6, "synchronized at " + at(tree));
      return super.visitSynchronized(tree, none);
    }

    @Override public Void visitLambdaExpression(LambdaExpressionTree tree, Void none) {
      refuse(2, "a lambda at " + at(tree));
      return super.visitLambdaExpression(tree, none);
    }

    @Override public Void visitMemberReference(MemberReferenceTree tree, Void none) {
      refuse(2, "a method reference at " + at(tree));
      return super.visitMemberReference(tree, none);
    }

    @Override public Void visitTypeCast(TypeCastTree tree, Void none) {
      refuse(6, "a cast at " + at(tree));
      return super.visitTypeCast(tree, none);
    }
  }

  // ---- who calls whom

  private Set<String> comesTo(String method) {
    Set<String> seen = new HashSet<>();
    List<String> waiting = new ArrayList<>(calls.get(method));
    while (!waiting.isEmpty()) {
      String next = waiting.remove(waiting.size() - 1);
      if (seen.add(next)) waiting.addAll(calls.get(next));
    }
    return seen;
  }

  /** Methods that call one another count once each, as a level of a recursion does. */
  private int deep(String method, Set<String> open) {
    int most = 0;
    for (String next : calls.get(method)) {
      if (open.contains(next)) continue;
      Set<String> more = new HashSet<>(open);
      more.add(next);
      most = Math.max(most, deep(next, more));
    }
    return 1 + most;
  }

  private void callsGoDown() {
    Set<String> recursive = new TreeSet<>();
    for (String method : calls.keySet()) {
      if (comesTo(method).contains(method)) recursive.add(method);
      int deep = deep(method, Set.of(method));
      if (deep > MOST_DEEP) refuse(11, method + " goes " + deep + " calls deep");
    }
    // Each carries the depth as an argument, and graft refuses to go beyond ten.
    if (!recursive.equals(Set.of("Net.graft", "Net.followArcs"))) refuse(8, "methods that come to themselves: " + recursive);
  }

  public static void main(String[] args) throws java.io.IOException {
    JavaCompiler compiler = ToolProvider.getSystemJavaCompiler();
    try (StandardJavaFileManager files = compiler.getStandardFileManager(null, null, null)) {
      JavacTask task = (JavacTask) compiler.getTask(null, files, null, List.of("-proc:none"), null,
          files.getJavaFileObjects(Path.of("src/main/java/ReachTrees.java")));
      CompilationUnitTree unit = task.parse().iterator().next();
      task.analyze();
      LanguageTests tests = new LanguageTests(Trees.instance(task), unit);
      if (unit.getPackageName() != null) refuse(1, "a package");
      if (unit.getTypeDecls().size() != 1) refuse(1, "classes beside the one");
      if (unit.getImports().size() != 1 || !unit.getImports().get(0).toString().contains(" java.util.Arrays;")) {
        refuse(4, "imports " + unit.getImports());
      }
      tests.new Look().scan(unit, null);
      if (tests.classes > MOST_CLASSES) refuse(11, tests.classes + " classes");
      tests.callsGoDown();
    }
    System.out.println(wrong == 0 ? "the class keeps to its part of Java" : wrong + " things are outside of it");
    if (wrong != 0) {
      System.exit(1);
    }
  }
}
