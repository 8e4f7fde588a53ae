import com.sun.source.tree.AssertTree;
import com.sun.source.tree.BinaryTree;
import com.sun.source.tree.BlockTree;
import com.sun.source.tree.ClassTree;
import com.sun.source.tree.CompilationUnitTree;
import com.sun.source.tree.CompoundAssignmentTree;
import com.sun.source.tree.ConditionalExpressionTree;
import com.sun.source.tree.DoWhileLoopTree;
import com.sun.source.tree.ExpressionTree;
import com.sun.source.tree.ForLoopTree;
import com.sun.source.tree.ImportTree;
import com.sun.source.tree.LambdaExpressionTree;
import com.sun.source.tree.LiteralTree;
import com.sun.source.tree.MemberReferenceTree;
import com.sun.source.tree.MethodInvocationTree;
import com.sun.source.tree.MethodTree;
import com.sun.source.tree.NewArrayTree;
import com.sun.source.tree.NewClassTree;
import com.sun.source.tree.ParenthesizedTree;
import com.sun.source.tree.SynchronizedTree;
import com.sun.source.tree.ThrowTree;
import com.sun.source.tree.Tree;
import com.sun.source.tree.TryTree;
import com.sun.source.tree.TypeCastTree;
import com.sun.source.tree.VariableTree;
import com.sun.source.tree.WhileLoopTree;
import com.sun.source.util.JavacTask;
import com.sun.source.util.TreePath;
import com.sun.source.util.TreePathScanner;
import com.sun.source.util.Trees;
import java.net.URI;
import java.util.ArrayList;
import java.util.HashMap;
import java.util.LinkedHashMap;
import java.util.LinkedHashSet;
import java.util.List;
import java.util.Map;
import java.util.Set;
import java.util.TreeSet;
import javax.lang.model.element.Element;
import javax.lang.model.element.ElementKind;
import javax.lang.model.element.Modifier;
import javax.lang.model.element.VariableElement;
import javax.lang.model.type.ArrayType;
import javax.lang.model.type.DeclaredType;
import javax.lang.model.type.TypeKind;
import javax.lang.model.type.TypeMirror;
import javax.tools.JavaCompiler;
import javax.tools.JavaFileObject;
import javax.tools.SimpleJavaFileObject;
import javax.tools.ToolProvider;

/**
 * What of ../shared/LANGUAGE.md can be seen in a file's tree, each finding with its rule's number. It is stricter than the
 * rules where the file does without what they allow (recursion, try, casts, objects made outside constructors).
 */
final class Rules extends TreePathScanner<Void, Void> {
  private static final int MOST_DEEP = 8;
  private static final int MOST_LINES = 60;
  private static final int MOST_PARAMETERS = 7;
  private static final int MOST_CLASSES = 12;
  private static final int MOST_FIELDS = 20;
  private static final Set<String> LIBRARY = Set.of(
      "java.util.Arrays.fill", "java.util.Arrays.copyOf", "java.util.Arrays.copyOfRange", "java.lang.System.arraycopy",
      "java.lang.Integer.bitCount", "java.lang.Math.min", "java.lang.Math.max", "java.lang.Math.abs");
  private static final Set<String> IMPORTS = Set.of("java.util.Arrays", "java.util.NoSuchElementException");
  private static final Set<String> THROWN = Set.of(
      "IllegalStateException", "IllegalArgumentException", "IndexOutOfBoundsException", "ArithmeticException",
      "UnsupportedOperationException", "NoSuchElementException", "RuntimeException");

  private final Set<String> findings = new LinkedHashSet<>();
  private final Map<Element, Set<Element>> calls = new LinkedHashMap<>();
  private final Map<Element, Integer> depths = new HashMap<>();
  private final Set<String> publicNames = new TreeSet<>();
  private final Set<String> privateNames = new TreeSet<>();
  private final Trees trees;
  private final CompilationUnitTree unit;
  private Element top;
  private Element caller;
  private boolean inMethod;
  private int classes;

  private Rules(Trees trees, CompilationUnitTree unit) { this.trees = trees; this.unit = unit; }

  /** What a file breaks, a line each: "rule n, line m: why". */
  static List<String> findings(String name, String source) throws Exception {
    JavaCompiler compiler = ToolProvider.getSystemJavaCompiler();
    JavaFileObject file = new SimpleJavaFileObject(URI.create("string:///" + name + ".java"), JavaFileObject.Kind.SOURCE) {
      @Override public CharSequence getCharContent(boolean ignoreErrors) { return source; }
    };
    JavacTask task = (JavacTask) compiler.getTask(null, null, d -> { }, List.of("-proc:none"), null, List.of(file));
    CompilationUnitTree unit = task.parse().iterator().next();
    task.analyze();
    Rules rules = new Rules(Trees.instance(task), unit);
    rules.scan(unit, null);
    rules.looksBack();
    return new ArrayList<>(rules.findings);
  }

  private void finds(int rule, Tree at, String why) {
    long place = at == null ? -1 : trees.getSourcePositions().getStartPosition(unit, at);
    findings.add("rule " + rule + (place < 0 ? "" : ", line " + line(place)) + ": " + why);
  }

  private long line(long place) { return unit.getLineMap().getLineNumber(place); }

  private void looksBack() {
    for (String name : privateNames) if (publicNames.contains(name)) finds(1, null, "a private method bears the public name " + name);
    if (classes > MOST_CLASSES) finds(11, null, classes + " classes");
    for (Element e : calls.keySet()) {
      int depth = depthOf(e, new LinkedHashSet<>());
      if (depth > MOST_DEEP) finds(11, null, e + " goes " + depth + " deep");
    }
  }

  private int depthOf(Element e, Set<Element> open) {
    if (depths.containsKey(e)) return depths.get(e);
    if (!open.add(e)) { finds(8, null, e + " calls itself"); return 0; }
    int below = 0;
    for (Element called : calls.getOrDefault(e, Set.of())) below = Math.max(below, depthOf(called, open));
    open.remove(e);
    depths.put(e, below + 1);
    return below + 1;
  }

  // ---- what the file is made of

  @Override public Void visitCompilationUnit(CompilationUnitTree node, Void p) {
    if (node.getPackage() != null) finds(1, node, "a package line");
    return super.visitCompilationUnit(node, p);
  }

  @Override public Void visitImport(ImportTree node, Void p) {
    if (!IMPORTS.contains(node.getQualifiedIdentifier().toString())) finds(4, node, "import of " + node.getQualifiedIdentifier());
    return null;
  }

  @Override public Void visitClass(ClassTree node, Void p) {
    Element outer = caller;
    Element type = element();
    classes++;
    if (top == null) top = type;
    else if (inMethod) finds(2, node, "a class in a method");
    else if (!type.getModifiers().contains(Modifier.STATIC) || isSeen(type)) finds(1, node, type + " is not static, or to be seen");
    int fields = 0;
    for (Tree member : node.getMembers()) {
      if (member instanceof BlockTree block && block.isStatic()) finds(5, member, "a static block");
      if (member instanceof VariableTree field && !field.getModifiers().getFlags().contains(Modifier.STATIC)) fields++;
    }
    if (fields > MOST_FIELDS) finds(11, node, type + " has " + fields + " fields");
    caller = type;
    super.visitClass(node, p);
    caller = outer;
    return null;
  }

  private static boolean isSeen(Element e) {
    return e.getModifiers().contains(Modifier.PUBLIC) || e.getModifiers().contains(Modifier.PROTECTED);
  }

  @Override public Void visitMethod(MethodTree node, Void p) {
    Element outer = caller;
    boolean wasIn = inMethod;
    Element method = element();
    boolean isMade = method.getKind() == ElementKind.CONSTRUCTOR;
    if (!isMade) (method.getModifiers().contains(Modifier.PUBLIC) ? publicNames : privateNames).add(method.getSimpleName().toString());
    if (node.getParameters().size() > MOST_PARAMETERS) finds(11, node, method + " takes " + node.getParameters().size());
    long lines = line(trees.getSourcePositions().getEndPosition(unit, node)) - line(trees.getSourcePositions().getStartPosition(unit, node)) + 1;
    if (lines > MOST_LINES) finds(11, node, method + " has " + lines + " lines");
    caller = node(method);
    inMethod = true;
    super.visitMethod(node, p);
    caller = outer;
    inMethod = wasIn;
    return null;
  }

  /** A class stands for its constructors and what its fields begin with: they run as one. */
  private static Element node(Element e) { return e.getKind() == ElementKind.CONSTRUCTOR ? e.getEnclosingElement() : e; }

  private Element element() { return trees.getElement(getCurrentPath()); }

  private boolean makes() { return caller != null && caller.getKind().isClass(); }

  // ---- types and fields

  @Override public Void visitVariable(VariableTree node, Void p) {
    VariableElement variable = (VariableElement) element();
    if (!isAllowed(variable.asType(), 0)) finds(3, node, "the type " + variable.asType());
    if (variable.getKind() == ElementKind.FIELD && variable.getModifiers().contains(Modifier.STATIC) && variable.getConstantValue() == null)
      finds(5, node, variable + " is static and no constant");
    return super.visitVariable(node, p);
  }

  private boolean isAllowed(TypeMirror type, int dimensions) {
    if (type.getKind().isPrimitive()) return dimensions <= 2;
    if (type instanceof ArrayType array) return isAllowed(array.getComponentType(), dimensions + 1);
    if (!(type instanceof DeclaredType declared) || type.getKind() == TypeKind.ERROR) return false;
    String name = declared.asElement().toString();
    return isOwn(declared.asElement()) ? dimensions <= 1 : dimensions == 0 && (name.equals("java.lang.String") || name.equals("java.lang.StringBuilder"));
  }

  private boolean isOwn(Element e) {
    for (Element at = e; at != null; at = at.getEnclosingElement()) if (at.equals(top)) return true;
    return false;
  }

  // ---- calls and what is made

  @Override public Void visitMethodInvocation(MethodInvocationTree node, Void p) {
    Element called = trees.getElement(new TreePath(getCurrentPath(), node.getMethodSelect()));
    if (called.getKind() != ElementKind.CONSTRUCTOR) {
      calls.computeIfAbsent(caller, c -> new LinkedHashSet<>()).add(called);
      String name = called.getEnclosingElement() + "." + called.getSimpleName();
      if (!isOwn(called) && !LIBRARY.contains(name)) finds(4, node, "a call of " + name);
    }
    return super.visitMethodInvocation(node, p);
  }

  @Override public Void visitNewClass(NewClassTree node, Void p) {
    Element type = trees.getElement(new TreePath(getCurrentPath(), node.getIdentifier()));
    boolean isThrown = getCurrentPath().getParentPath().getLeaf() instanceof ThrowTree;
    if (isOwn(type)) calls.computeIfAbsent(caller, c -> new LinkedHashSet<>()).add(type);
    else if (!isThrown) finds(4, node, "new " + type);
    if (!makes() && !isThrown) finds(12, node, "an object made outside a constructor");
    return super.visitNewClass(node, p);
  }

  @Override public Void visitNewArray(NewArrayTree node, Void p) {
    if (!makes()) finds(12, node, "an array made outside a constructor");
    return super.visitNewArray(node, p);
  }

  @Override public Void visitLiteral(LiteralTree node, Void p) {
    if (node.getValue() instanceof String text && !text.chars().allMatch(c -> c >= 1 && c <= 127)) finds(4, node, "a sign that is not 1 to 127");
    return super.visitLiteral(node, p);
  }

  @Override public Void visitThrow(ThrowTree node, Void p) {
    boolean isWritten = node.getExpression() instanceof NewClassTree made && THROWN.contains(made.getIdentifier().toString())
        && made.getArguments().size() <= 1 && made.getArguments().stream().allMatch(a -> a instanceof LiteralTree);
    if (!isWritten || makes()) finds(6, node, "" + node);
    return super.visitThrow(node, p);
  }

  // ---- what the file does without

  @Override public Void visitLambdaExpression(LambdaExpressionTree node, Void p) { finds(2, node, "a lambda"); return null; }
  @Override public Void visitMemberReference(MemberReferenceTree node, Void p) { finds(2, node, "a method reference"); return null; }
  @Override public Void visitTry(TryTree node, Void p) { finds(6, node, "try"); return super.visitTry(node, p); }
  @Override public Void visitAssert(AssertTree node, Void p) { finds(6, node, "assert"); return super.visitAssert(node, p); }
  @Override public Void visitSynchronized(SynchronizedTree node, Void p) { finds(6, node, "synchronized"); return super.visitSynchronized(node, p); }

  @Override public Void visitTypeCast(TypeCastTree node, Void p) {
    TypeMirror to = trees.getTypeMirror(new TreePath(getCurrentPath(), node.getType()));
    if (!to.getKind().isPrimitive()) finds(6, node, "a cast to " + to);
    return super.visitTypeCast(node, p);
  }

  // ---- arithmetic and loops

  @Override public Void visitBinary(BinaryTree node, Void p) {
    boolean isText = trees.getTypeMirror(getCurrentPath()).toString().equals("java.lang.String");
    if (node.getKind() == Tree.Kind.PLUS && isText) finds(10, node, "texts joined by +");
    if (node.getKind() == Tree.Kind.DIVIDE || node.getKind() == Tree.Kind.REMAINDER) divides(node, node.getRightOperand());
    return super.visitBinary(node, p);
  }

  @Override public Void visitCompoundAssignment(CompoundAssignmentTree node, Void p) {
    if (node.getKind() == Tree.Kind.DIVIDE_ASSIGNMENT || node.getKind() == Tree.Kind.REMAINDER_ASSIGNMENT) divides(node, node.getExpression());
    return super.visitCompoundAssignment(node, p);
  }

  private void divides(Tree at, ExpressionTree divisor) {
    if (!isNumber(divisor) && !isTested(divisor.toString() + " > 0")) finds(7, at, "a divisor that is not looked at: " + divisor);
  }

  private boolean isNumber(ExpressionTree e) {
    if (e instanceof LiteralTree literal) return literal.getValue() instanceof Number n && n.longValue() != 0;
    return trees.getElement(new TreePath(getCurrentPath(), e)) instanceof VariableElement v
        && v.getConstantValue() instanceof Number n && n.longValue() != 0;
  }

  private boolean isTested(String condition) {
    for (TreePath at = getCurrentPath(); at != null; at = at.getParentPath())
      if (at.getLeaf() instanceof ConditionalExpressionTree choice && bare(choice.getCondition()).toString().equals(condition)) return true;
    return false;
  }

  @Override public Void visitForLoop(ForLoopTree node, Void p) { ends(node, node.getCondition()); return super.visitForLoop(node, p); }
  @Override public Void visitWhileLoop(WhileLoopTree node, Void p) { ends(node, node.getCondition()); return super.visitWhileLoop(node, p); }
  @Override public Void visitDoWhileLoop(DoWhileLoopTree node, Void p) { ends(node, node.getCondition()); return super.visitDoWhileLoop(node, p); }

  private void ends(Tree loop, ExpressionTree condition) {
    if (condition == null || !hasBound(condition)) finds(9, loop, "a loop without a bound");
  }

  /** A comparison that must hold for the loop to go on. */
  private static boolean hasBound(ExpressionTree condition) {
    if (!(bare(condition) instanceof BinaryTree both)) return false;
    switch (both.getKind()) {
      case CONDITIONAL_AND: return hasBound(both.getLeftOperand()) || hasBound(both.getRightOperand());
      case LESS_THAN: case LESS_THAN_EQUAL: case GREATER_THAN: case GREATER_THAN_EQUAL: return true;
      default: return false;
    }
  }

  private static ExpressionTree bare(ExpressionTree e) {
    ExpressionTree at = e;
    while (at instanceof ParenthesizedTree inner) at = inner.getExpression();
    return at;
  }
}
