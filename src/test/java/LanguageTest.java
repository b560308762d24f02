import com.sun.source.tree.*;
import com.sun.source.util.JavacTask;
import com.sun.source.util.TreePath;
import com.sun.source.util.TreePathScanner;
import com.sun.source.util.Trees;
import java.io.IOException;
import java.nio.file.Files;
import java.nio.file.Path;
import java.util.HashMap;
import java.util.List;
import java.util.Map;
import java.util.Set;
import java.util.TreeSet;
import javax.lang.model.element.Element;
import javax.lang.model.element.ElementKind;
import javax.lang.model.element.ExecutableElement;
import javax.lang.model.element.Modifier;
import javax.lang.model.type.TypeKind;
import javax.lang.model.type.TypeMirror;
import javax.tools.JavaCompiler;
import javax.tools.StandardJavaFileManager;
import javax.tools.ToolProvider;

/** The rules of ../shared/LANGUAGE.md that can be seen in the source: its tree is walked once. */
final class LanguageTest {
  private static final Path SOURCE = Path.of("src/main/java/LiftSweeps.java");
  private static final int MOST_DEEP = 8, MOST_LINES = 60, MOST_CLASSES = 12, MOST_FIELDS = 20;

  // What the rules 5 and 6 leave out, by the names of the trees.
  private static final Set<Tree.Kind> BANNED = Set.of(
      Tree.Kind.THROW, Tree.Kind.TRY, Tree.Kind.CATCH, Tree.Kind.SYNCHRONIZED, Tree.Kind.ASSERT,
      Tree.Kind.LAMBDA_EXPRESSION, Tree.Kind.MEMBER_REFERENCE, Tree.Kind.ANNOTATION,
      Tree.Kind.SWITCH_EXPRESSION, Tree.Kind.YIELD, Tree.Kind.IMPORT, Tree.Kind.PACKAGE,
      Tree.Kind.UNION_TYPE, Tree.Kind.INTERSECTION_TYPE, Tree.Kind.TYPE_CAST,
      Tree.Kind.INSTANCE_OF);
  // The part of rule 4 that the class needs; who needs more of the rule adds it here.
  private static final Set<String> LIBRARY = Set.of(
      "java.lang.System.arraycopy", "java.lang.Math.abs", "java.lang.Integer.bitCount",
      "java.lang.String.length", "java.lang.String.charAt", "java.lang.Object.<init>");

  private LanguageTest() {}

  static void run() {
    Walker walker = new Walker();
    String[] sentences = {
      "language 2, 5, 6: nothing that the rules leave out", "language 3: types",
      "language 4: the library", "language 5: static fields", "language 8: no recursion",
      "language 9: loops with an end", "language 10: no texts joined by +",
      "language 11: parameters, lines, fields, classes", "language 12: objects are made at first",
    };
    try {
      walker.walk();
    } catch (IOException e) {
      walker.wrong("language 2", "the source is not there");
    }
    for (String sentence : sentences) {
      Check.begin(sentence);
      for (String what : walker.found.getOrDefault(sentence.split("[:,]")[0], new TreeSet<>())) {
        Check.holds(what, false);
      }
    }
    Check.begin("language 11: calls go eight deep at most");
    for (ExecutableElement method : walker.calls.keySet()) {
      int deep = walker.depth(method, 0);
      Check.holds(method + " goes " + deep + " deep", deep <= MOST_DEEP);
    }
    Check.holds("all methods were seen", walker.calls.size() > 100);
  }

  /** Walks the source's tree, and tells what is wrong by its rule. */
  private static final class Walker extends TreePathScanner<Void, Void> {
    final Map<String, Set<String>> found = new HashMap<>();
    final Map<ExecutableElement, Set<ExecutableElement>> calls = new HashMap<>();
    private final Map<ExecutableElement, Integer> depths = new HashMap<>();
    private Trees trees;
    private CompilationUnitTree unit;
    private int classes = 0;

    void walk() throws IOException {
      JavaCompiler compiler = ToolProvider.getSystemJavaCompiler();
      try (StandardJavaFileManager files = compiler.getStandardFileManager(null, null, null)) {
        JavacTask task = (JavacTask) compiler.getTask(null, files, null, List.of("-proc:none"), null,
            files.getJavaFileObjects(SOURCE));
        trees = Trees.instance(task);
        unit = task.parse().iterator().next();
        task.analyze();
        scan(unit, null);
      }
      String text = Files.readString(SOURCE);
      if (text.chars().anyMatch(c -> c > 126 || c < 32 && c != '\n')) {
        wrong("language 3", "a sign beyond 127");
      }
    }

    void wrong(String rule, String what) {
      found.computeIfAbsent(rule, r -> new TreeSet<>()).add(what);
    }

    private String at(Tree tree) {
      long place = trees.getSourcePositions().getStartPosition(unit, tree);
      return " in line " + unit.getLineMap().getLineNumber(Math.max(0, place));
    }

    /** How deep the calls go, the method itself counted; 99 for a recursion. */
    int depth(ExecutableElement method, int above) {
      if (above > 50) {
        return 99;
      }
      Integer known = depths.get(method);
      if (known != null) {
        return known;
      }
      int deepest = 0;
      for (ExecutableElement called : calls.getOrDefault(method, Set.of())) {
        deepest = Math.max(deepest, depth(called, above + 1));
      }
      depths.put(method, Math.min(99, deepest + 1));
      return depths.get(method);
    }

    private Element element(Tree tree) {
      return trees.getElement(new TreePath(getCurrentPath(), tree));
    }

    private static boolean own(Element e) {
      for (Element up = e; up != null; up = up.getEnclosingElement()) {
        if (up.toString().equals("LiftSweeps")) {
          return true;
        }
      }
      return false;
    }

    private ExecutableElement inside() {
      for (TreePath p = getCurrentPath(); p != null; p = p.getParentPath()) {
        if (p.getLeaf() instanceof MethodTree) {
          return (ExecutableElement) trees.getElement(p);
        }
      }
      return null;
    }

    @Override
    public Void scan(Tree tree, Void v) {
      if (tree != null && BANNED.contains(tree.getKind())) {
        wrong("language 2", tree.getKind() + at(tree));
      }
      return super.scan(tree, v);
    }

    @Override
    public Void visitClass(ClassTree tree, Void v) {
      classes++;
      Element e = trees.getElement(getCurrentPath());
      boolean top = e.getEnclosingElement().getKind() == ElementKind.PACKAGE;
      if (!top && !e.getModifiers().contains(Modifier.STATIC)) {
        wrong("language 2", "a class that is not static" + at(tree));
      }
      if (classes > MOST_CLASSES) {
        wrong("language 11", "more than twelve classes");
      }
      long fields = tree.getMembers().stream().filter(m -> m instanceof VariableTree f
          && !f.getModifiers().getFlags().contains(Modifier.STATIC)).count();
      if (fields > MOST_FIELDS) {
        wrong("language 11", "more than twenty fields" + at(tree));
      }
      for (Tree member : tree.getMembers()) {
        if (member instanceof BlockTree) {
          wrong("language 5", "an initialiser block" + at(member));
        }
      }
      return super.visitClass(tree, v);
    }

    @Override
    public Void visitMethod(MethodTree tree, Void v) {
      calls.computeIfAbsent((ExecutableElement) trees.getElement(getCurrentPath()),
          m -> new java.util.HashSet<>());
      if (tree.getParameters().size() > 7) {
        wrong("language 11", "more than seven parameters" + at(tree));
      }
      LineMap lines = unit.getLineMap();
      long first = lines.getLineNumber(trees.getSourcePositions().getStartPosition(unit, tree));
      long last = lines.getLineNumber(
          Math.max(1, trees.getSourcePositions().getEndPosition(unit, tree)));
      if (last - first >= MOST_LINES) {
        wrong("language 11", "a long method" + at(tree));
      }
      return super.visitMethod(tree, v);
    }

    @Override
    public Void visitVariable(VariableTree tree, Void v) {
      Element e = trees.getElement(getCurrentPath());
      type(e.asType(), tree);
      Set<Modifier> how = e.getModifiers();
      if (e.getKind() == ElementKind.FIELD && how.contains(Modifier.STATIC)) {
        String name = e.asType().toString();
        boolean known = Set.of("int", "long", "boolean", "char", "int[]", "long[]", "char[]",
            "byte[]", "java.lang.String").contains(name);
        boolean written = !name.endsWith("[]") || tree.getInitializer() instanceof NewArrayTree made
            && made.getInitializers() != null;
        if (!how.contains(Modifier.FINAL) || !known || !written) {
          wrong("language 5", tree.getName() + at(tree));
        }
      }
      return super.visitVariable(tree, v);
    }

    private void type(TypeMirror type, Tree tree) {
      String name = type.toString();
      String item = name.replaceFirst("\\[\\]$", "");
      boolean number = Set.of("int", "long", "short", "byte", "char", "boolean").contains(item);
      if (!number && !name.equals("java.lang.String") && !item.startsWith("LiftSweeps")) {
        wrong("language 3", name + at(tree));
      }
    }

    @Override
    public Void visitMethodInvocation(MethodInvocationTree tree, Void v) {
      called((ExecutableElement) element(tree.getMethodSelect()), tree);
      return super.visitMethodInvocation(tree, v);
    }

    @Override
    public Void visitNewClass(NewClassTree tree, Void v) {
      called((ExecutableElement) trees.getElement(getCurrentPath()), tree);
      made(tree);
      if (tree.getClassBody() != null) {
        wrong("language 2", "an anonymous class" + at(tree));
      }
      return super.visitNewClass(tree, v);
    }

    @Override
    public Void visitNewArray(NewArrayTree tree, Void v) {
      made(tree);
      return super.visitNewArray(tree, v);
    }

    private void called(ExecutableElement method, Tree tree) {
      if (own(method)) {
        ExecutableElement from = inside();
        if (from != null) {
          calls.computeIfAbsent(from, m -> new java.util.HashSet<>()).add(method);
        }
      } else if (!LIBRARY.contains(method.getEnclosingElement() + "." + method.getSimpleName())) {
        wrong("language 4", method + at(tree));
      }
    }

    /** The class makes all that it needs in constructors, which is more than rule 12 asks. */
    private void made(Tree tree) {
      ExecutableElement from = inside();
      if (from != null && from.getKind() != ElementKind.CONSTRUCTOR) {
        wrong("language 12", "something made by " + from + at(tree));
      }
    }

    @Override
    public Void visitAssignment(AssignmentTree tree, Void v) {
      if (tree.getVariable() instanceof ArrayAccessTree item) {
        Element row = element(item.getExpression());
        if (row != null && row.getModifiers().contains(Modifier.STATIC)) {
          wrong("language 5", "a constant row is changed" + at(tree));
        }
      }
      return super.visitAssignment(tree, v);
    }

    @Override
    public Void visitForLoop(ForLoopTree tree, Void v) {
      ends(tree.getCondition(), tree);
      return super.visitForLoop(tree, v);
    }

    @Override
    public Void visitWhileLoop(WhileLoopTree tree, Void v) {
      ends(tree.getCondition(), tree);
      return super.visitWhileLoop(tree, v);
    }

    @Override
    public Void visitDoWhileLoop(DoWhileLoopTree tree, Void v) {
      ends(tree.getCondition(), tree);
      return super.visitDoWhileLoop(tree, v);
    }

    /** A counter is held against a bound in the condition. */
    private void ends(ExpressionTree condition, Tree tree) {
      String text = condition == null ? "" : condition.toString();
      if (!text.contains("<") && !text.contains(">")) {
        wrong("language 9", "a loop without a bound" + at(tree));
      }
    }

    @Override
    public Void visitBinary(BinaryTree tree, Void v) {
      if (tree.getKind() == Tree.Kind.PLUS && isText(tree)) {
        wrong("language 10", "a text joined" + at(tree));
      }
      boolean equals = tree.getKind() == Tree.Kind.EQUAL_TO || tree.getKind() == Tree.Kind.NOT_EQUAL_TO;
      if (equals && isText(tree.getLeftOperand()) && isText(tree.getRightOperand())) {
        wrong("language 2", "texts compared by ==" + at(tree));
      }
      return super.visitBinary(tree, v);
    }

    @Override
    public Void visitCompoundAssignment(CompoundAssignmentTree tree, Void v) {
      if (isText(tree.getVariable())) {
        wrong("language 10", "a text joined" + at(tree));
      }
      return super.visitCompoundAssignment(tree, v);
    }

    private boolean isText(ExpressionTree tree) {
      TreePath here = getCurrentPath();
      TypeMirror type = trees.getTypeMirror(here.getLeaf() == tree ? here : new TreePath(here, tree));
      return type != null && type.getKind() == TypeKind.DECLARED
          && type.toString().equals("java.lang.String");
    }
  }
}
