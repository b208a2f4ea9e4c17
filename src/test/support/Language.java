import com.sun.source.tree.ArrayAccessTree;
import com.sun.source.tree.AssertTree;
import com.sun.source.tree.BinaryTree;
import com.sun.source.tree.BlockTree;
import com.sun.source.tree.ClassTree;
import com.sun.source.tree.CompilationUnitTree;
import com.sun.source.tree.CompoundAssignmentTree;
import com.sun.source.tree.ConditionalExpressionTree;
import com.sun.source.tree.DoWhileLoopTree;
import com.sun.source.tree.ExpressionTree;
import com.sun.source.tree.ForLoopTree;
import com.sun.source.tree.IdentifierTree;
import com.sun.source.tree.IfTree;
import com.sun.source.tree.LambdaExpressionTree;
import com.sun.source.tree.LiteralTree;
import com.sun.source.tree.MemberReferenceTree;
import com.sun.source.tree.MethodInvocationTree;
import com.sun.source.tree.MethodTree;
import com.sun.source.tree.NewArrayTree;
import com.sun.source.tree.NewClassTree;
import com.sun.source.tree.SynchronizedTree;
import com.sun.source.tree.ThrowTree;
import com.sun.source.tree.Tree;
import com.sun.source.tree.TryTree;
import com.sun.source.tree.TypeCastTree;
import com.sun.source.tree.VariableTree;
import com.sun.source.tree.WhileLoopTree;
import com.sun.source.util.JavacTask;
import com.sun.source.util.TreePath;
import com.sun.source.util.TreePathScanner;
import com.sun.source.util.TreeScanner;
import com.sun.source.util.Trees;
import java.io.IOException;
import java.net.URI;
import java.util.ArrayList;
import java.util.HashMap;
import java.util.HashSet;
import java.util.List;
import java.util.Map;
import java.util.Set;
import java.util.TreeSet;
import javax.lang.model.element.Element;
import javax.lang.model.element.ElementKind;
import javax.lang.model.element.ExecutableElement;
import javax.lang.model.element.Modifier;
import javax.lang.model.element.TypeElement;
import javax.lang.model.element.VariableElement;
import javax.lang.model.type.ArrayType;
import javax.lang.model.type.DeclaredType;
import javax.lang.model.type.TypeKind;
import javax.lang.model.type.TypeMirror;
import javax.lang.model.util.Elements;
import javax.tools.JavaCompiler;
import javax.tools.SimpleJavaFileObject;
import javax.tools.ToolProvider;

// Goes through a source by the compiler's own trees and tells which rules of LANGUAGE.md it breaks.
// Where a rule can't be seen from the text (an index is looked at before it is used), what is asked
// is a little more than the rule asks; a class that needs the rest of the rule may loosen it here.
final class Language extends TreePathScanner<Void, Void> {
  private static final int MOST_PARAMETERS = 7, MOST_LINES = 60, MOST_DEEP = 8, MOST_CLASSES = 12, MOST_FIELDS = 20;
  private static final Set<String> TYPES = Set.of("java.lang.String", "java.lang.StringBuilder", "java.lang.Integer",
      "java.util.ArrayList", "java.util.List", "java.util.Iterator", "java.lang.Iterable", "java.lang.Comparable");
  private static final Map<String, Set<String>> LIBRARY = Map.of(
      "java.lang.String", Set.of("length", "charAt", "isEmpty", "equals", "indexOf", "substring", "toCharArray", "<init>"),
      "java.lang.StringBuilder", Set.of("append", "charAt", "setCharAt", "setLength", "deleteCharAt", "reverse", "length",
          "toString", "<init>"),
      "java.util.ArrayList", Set.of("add", "get", "set", "remove", "size", "isEmpty", "clear", "<init>"),
      "java.util.List", Set.of("add", "get", "set", "remove", "size", "isEmpty", "clear", "of"),
      "java.util.Iterator", Set.of("hasNext", "next"),
      "java.lang.Iterable", Set.of("iterator"),
      "java.lang.Comparable", Set.of("compareTo"),
      "java.lang.System", Set.of("arraycopy"),
      "java.util.Arrays", Set.of("copyOf", "copyOfRange", "fill"),
      "java.lang.Object", Set.of("<init>"));
  private static final Set<String> NUMBER_FUNCTIONS = Set.of("java.lang.Integer", "java.lang.Long", "java.lang.Math");

  private final Trees trees;
  private final Elements elements;
  private final CompilationUnitTree unit;
  private final Set<String> face;
  private final TreeSet<String> broken = new TreeSet<>();
  /** Who calls whom; a class stands for its constructors and what its fields begin with. */
  private final Map<Element, Set<Element>> calls = new HashMap<>();
  /** Calls that go to whatever overrides the method, too: not those by super, not those of constructors. */
  private final List<List<Element>> overridable = new ArrayList<>();
  private final List<ExecutableElement> methods = new ArrayList<>();
  private int classes = 0;

  private Language(JavacTask task, CompilationUnitTree unit, Set<String> face) {
    trees = Trees.instance(task);
    elements = task.getElements();
    this.unit = unit;
    this.face = face;
  }

  /** What the source breaks, each told as the rule's number and what is wrong. */
  static TreeSet<String> broken(String source, Set<String> face) throws IOException {
    JavaCompiler compiler = ToolProvider.getSystemJavaCompiler();
    SimpleJavaFileObject file = new SimpleJavaFileObject(URI.create("string:///QuoitFeast.java"), SimpleJavaFileObject.Kind.SOURCE) {
      @Override public CharSequence getCharContent(boolean ignoring) { return source; }
    };
    JavacTask task = (JavacTask) compiler.getTask(null, null, null, List.of("--release", "17"), null, List.of(file));
    CompilationUnitTree unit = task.parse().iterator().next();
    task.analyze();
    Language language = new Language(task, unit, face);
    language.scan(unit, null);
    language.afterAll();
    return language.broken;
  }

  private void must(int rule, boolean holds, String what, Tree at) {
    if (!holds) broken.add("rule " + rule + ": " + what + (at == null ? "" : " in line " + lineOf(at)));
  }

  private long lineOf(Tree at) {
    return unit.getLineMap().getLineNumber(trees.getSourcePositions().getStartPosition(unit, at));
  }

  private long linesOf(Tree at) {
    long end = trees.getSourcePositions().getEndPosition(unit, at);
    return unit.getLineMap().getLineNumber(end) - lineOf(at) + 1;
  }

  private Element elementOf(Tree tree) {
    return trees.getElement(new TreePath(getCurrentPath(), tree));
  }

  private Element here() { return trees.getElement(getCurrentPath()); }

  private TypeMirror typeOf(Tree tree) {
    TypeMirror type = trees.getTypeMirror(new TreePath(getCurrentPath(), tree));
    return type == null ? elements.getTypeElement("java.lang.Object").asType() : type;
  }

  private static boolean is(TypeMirror type, String name) { return type.toString().equals(name); }

  private boolean isOwn(Element e) {
    for (Element up = e; up != null; up = up.getEnclosingElement()) {
      if (up.getKind().isClass() && up.getSimpleName().contentEquals("QuoitFeast")) return true;
    }
    return false;
  }

  /** The method in which the scanner stands; the class, where fields begin; constructors count as their class. */
  private Element within() {
    for (TreePath p = getCurrentPath(); p != null; p = p.getParentPath()) {
      if (p.getLeaf() instanceof MethodTree && !isConstructor(p)) return trees.getElement(p);
      if (p.getLeaf() instanceof ClassTree) return trees.getElement(p);
    }
    return null;
  }

  private boolean isConstructor(TreePath p) { return trees.getElement(p).getKind() == ElementKind.CONSTRUCTOR; }

  private TreePath methodPath() {
    for (TreePath p = getCurrentPath(); p != null; p = p.getParentPath()) if (p.getLeaf() instanceof MethodTree) return p;
    return null;
  }

  private boolean standsInLoop() {
    for (TreePath p = getCurrentPath(); p != null && !(p.getLeaf() instanceof MethodTree); p = p.getParentPath()) {
      if (p.getLeaf() instanceof ForLoopTree) return true;
    }
    return false;
  }

  // ---- rules 1, 2, 11: the face, classes inside

  @Override public Void visitCompilationUnit(CompilationUnitTree node, Void v) {
    must(1, node.getPackageName() == null, "a package line", null);
    must(1, node.getTypeDecls().size() == 1, "more than one class in the file", null);
    return super.visitCompilationUnit(node, v);
  }

  @Override public Void visitClass(ClassTree node, Void v) {
    classes++;
    Set<Modifier> modifiers = node.getModifiers().getFlags();
    Tree around = getCurrentPath().getParentPath().getLeaf();
    if (around instanceof CompilationUnitTree) {
      must(1, modifiers.contains(Modifier.PUBLIC) && modifiers.contains(Modifier.FINAL), "the class is public and final", node);
    } else {
      must(2, around instanceof ClassTree, "a local class, or one without a name", node);
      must(2, node.getKind() != Tree.Kind.CLASS || modifiers.contains(Modifier.STATIC), "a class that isn't static", node);
      must(1, !modifiers.contains(Modifier.PUBLIC) && !modifiers.contains(Modifier.PROTECTED), "a class inside that is seen", node);
    }
    int fields = 0;
    for (Tree member : node.getMembers()) {
      if (member instanceof BlockTree block) must(5, !block.isStatic(), "a static initialiser", block);
      if (member instanceof VariableTree f && !f.getModifiers().getFlags().contains(Modifier.STATIC)) fields++;
    }
    must(11, fields <= MOST_FIELDS, "more than twenty fields", node);
    return super.visitClass(node, v);
  }

  @Override public Void visitMethod(MethodTree node, Void v) {
    ExecutableElement method = (ExecutableElement) here();
    boolean outer = method.getEnclosingElement().getEnclosingElement().getKind() == ElementKind.PACKAGE;
    Set<Modifier> modifiers = method.getModifiers();
    String name = method.getSimpleName().toString();
    boolean ofFace = face.contains(name) || name.equals("<init>");
    if (outer) {
      boolean seen = !modifiers.contains(Modifier.PRIVATE);
      must(1, !seen || modifiers.contains(Modifier.PUBLIC) && ofFace, name + " is seen and not of the face", node);
      must(1, seen || !face.contains(name), name + " is private and bears a name of the face", node);
    } else {
      must(1, !face.contains(name), name + " is inside and bears a name of the face", node);
    }
    must(6, !Set.of("equals", "hashCode", "toString").contains(name), name + " of an own object", node);
    must(6, node.getThrows().isEmpty() && !modifiers.contains(Modifier.SYNCHRONIZED), "throws or synchronized", node);
    must(11, node.getParameters().size() <= MOST_PARAMETERS, name + " takes more than seven parameters", node);
    must(11, linesOf(node) <= MOST_LINES, name + " is longer than sixty lines", node);
    if (node.getReturnType() != null && method.getReturnType().getKind() != TypeKind.VOID) mustBeAllowed(method.getReturnType(), node);
    methods.add(method);
    return super.visitMethod(node, v);
  }

  @Override public Void visitLambdaExpression(LambdaExpressionTree node, Void v) {
    must(2, false, "a lambda", node);
    return super.visitLambdaExpression(node, v);
  }

  @Override public Void visitMemberReference(MemberReferenceTree node, Void v) {
    must(2, false, "a method reference", node);
    return super.visitMemberReference(node, v);
  }

  // ---- rules 3, 5: types, static fields

  @Override public Void visitVariable(VariableTree node, Void v) {
    Element variable = here();
    mustBeAllowed(variable.asType(), node);
    if (variable.getKind() == ElementKind.FIELD) {
      boolean outer = variable.getEnclosingElement().getEnclosingElement().getKind() == ElementKind.PACKAGE;
      Set<Modifier> modifiers = variable.getModifiers();
      boolean constant = modifiers.contains(Modifier.STATIC) && modifiers.contains(Modifier.FINAL);
      must(1, !outer || modifiers.contains(Modifier.PRIVATE) || modifiers.contains(Modifier.PUBLIC) && constant,
          "a field that is seen", node);
      must(5, !modifiers.contains(Modifier.STATIC) || constant, "a static field that isn't final", node);
      must(5, !modifiers.contains(Modifier.STATIC) || mayBeConstant(variable.asType(), node.getInitializer()),
          "a static field that is no constant", node);
    }
    return super.visitVariable(node, v);
  }

  private static boolean mayBeConstant(TypeMirror type, ExpressionTree begin) {
    if (type instanceof ArrayType) {
      boolean writtenOut = begin instanceof NewArrayTree a && a.getInitializers() != null;
      return writtenOut && Set.of("int[]", "long[]", "char[]", "byte[]").contains(type.toString());
    }
    return Set.of("int", "long", "boolean", "char", "java.lang.String").contains(type.toString());
  }

  private void mustBeAllowed(TypeMirror type, Tree at) {
    if (type instanceof ArrayType array) {
      TypeMirror of = array.getComponentType();
      boolean two = of instanceof ArrayType inner && inner.getComponentType().getKind().isPrimitive();
      boolean one = of.getKind().isPrimitive() || of instanceof DeclaredType d && isOwn(d.asElement());
      must(3, one || two, "an array of " + of, at);
      return;
    }
    if (type instanceof DeclaredType d) {
      String name = ((TypeElement) d.asElement()).getQualifiedName().toString();
      must(3, isOwn(d.asElement()) || TYPES.contains(name), "the type " + type, at);
      for (TypeMirror argument : d.getTypeArguments()) mustBeAllowed(argument, at);
    }
  }

  @Override public Void visitLiteral(LiteralTree node, Void v) {
    if (node.getValue() instanceof String s) {
      for (int i = 0; i < s.length(); i++) must(4, s.charAt(i) >= 1 && s.charAt(i) <= 127, "a sign that is not 1 to 127", node);
    }
    return super.visitLiteral(node, v);
  }

  // ---- rules 4, 8, 12: what is called, what is made

  @Override public Void visitMethodInvocation(MethodInvocationTree node, Void v) {
    Element called = trees.getElement(getCurrentPath());
    if (called instanceof ExecutableElement method) {
      boolean bySuper = node.getMethodSelect().toString().startsWith("super.");
      note(method, bySuper);
      if (!isOwn(method)) mustBeInLibrary(method, node);
      if (within() instanceof TypeElement && methodPath() != null) mustBeSafeInConstructor(method, node);
    }
    return super.visitMethodInvocation(node, v);
  }

  private void mustBeInLibrary(ExecutableElement method, Tree at) {
    String owner = method.getEnclosingElement().toString(), name = method.getSimpleName().toString();
    boolean ofNumbers = NUMBER_FUNCTIONS.contains(owner) && isOverWholeNumbers(method) && !name.endsWith("Exact");
    boolean cloneOfArray = owner.equals("Array") && name.equals("clone");
    must(4, ofNumbers || cloneOfArray || LIBRARY.getOrDefault(owner, Set.of()).contains(name), "the library's " + owner + "." + name, at);
  }

  private static boolean isOverWholeNumbers(ExecutableElement method) {
    Set<TypeKind> whole = Set.of(TypeKind.INT, TypeKind.LONG);
    boolean all = method.getModifiers().contains(Modifier.STATIC) && whole.contains(method.getReturnType().getKind());
    for (VariableElement p : method.getParameters()) all &= whole.contains(p.asType().getKind());
    return all;
  }

  private void mustBeSafeInConstructor(ExecutableElement method, MethodInvocationTree node) {
    Set<Modifier> modifiers = method.getModifiers();
    boolean fixed = modifiers.contains(Modifier.PRIVATE) || modifiers.contains(Modifier.STATIC) || modifiers.contains(Modifier.FINAL)
        || method.getEnclosingElement().getModifiers().contains(Modifier.FINAL) || method.getKind() == ElementKind.CONSTRUCTOR;
    must(12, fixed, "a constructor calls " + method + ", which could be overridden", node);
    for (ExpressionTree argument : node.getArguments()) {
      must(12, !argument.toString().equals("this"), "a constructor hands out what it makes", node);
    }
  }

  private void note(ExecutableElement method, boolean justThis) {
    if (!isOwn(method)) return;
    Element from = within();
    boolean maker = method.getKind() == ElementKind.CONSTRUCTOR;
    Element to = maker ? method.getEnclosingElement() : method;
    Set<Element> heads = calls.computeIfAbsent(from, k -> new HashSet<>());
    boolean ofTheSameClass = maker && from == to;
    if (!ofTheSameClass) heads.add(to);
    if (!justThis) overridable.add(List.of(from, method));
  }

  @Override public Void visitNewClass(NewClassTree node, Void v) {
    Element made = trees.getElement(getCurrentPath());
    if (made instanceof ExecutableElement maker) {
      note(maker, true);
      if (!isOwn(maker)) mustBeInLibrary(maker, node);
    }
    boolean inConstructor = within() instanceof TypeElement;
    must(12, inConstructor || !standsInLoop(), "an object is made in a loop", node);
    return super.visitNewClass(node, v);
  }

  @Override public Void visitNewArray(NewArrayTree node, Void v) {
    must(12, within() instanceof TypeElement, "an array that is made by a method, not once in a constructor", node);
    for (ExpressionTree length : node.getDimensions()) mustBeLookedAt(length, "a length", node);
    return super.visitNewArray(node, v);
  }

  // ---- rule 6: what is left out of the language

  @Override public Void visitThrow(ThrowTree node, Void v) {
    must(6, false, "throw", node);
    return super.visitThrow(node, v);
  }

  @Override public Void visitTry(TryTree node, Void v) {
    must(6, false, "try", node);
    return super.visitTry(node, v);
  }

  @Override public Void visitAssert(AssertTree node, Void v) {
    must(6, false, "assert", node);
    return super.visitAssert(node, v);
  }

  @Override public Void visitSynchronized(SynchronizedTree node, Void v) {
    must(6, false, "synchronized", node);
    return super.visitSynchronized(node, v);
  }

  @Override public Void visitTypeCast(TypeCastTree node, Void v) {
    boolean plain = typeOf(node.getType()).getKind().isPrimitive();
    TreePath method = methodPath();
    must(6, plain || method != null && method.getLeaf().toString().contains("instanceof"), "a cast without a test", node);
    return super.visitTypeCast(node, v);
  }

  @Override public Void visitBinary(BinaryTree node, Void v) {
    TypeMirror left = typeOf(node.getLeftOperand()), right = typeOf(node.getRightOperand());
    boolean compares = node.getKind() == Tree.Kind.EQUAL_TO || node.getKind() == Tree.Kind.NOT_EQUAL_TO;
    for (String name : List.of("java.lang.String", "java.lang.Integer")) {
      must(6, !compares || !is(left, name) || !is(right, name), "== between two of " + name, node);
    }
    must(10, node.getKind() != Tree.Kind.PLUS || !is(left, "java.lang.String") && !is(right, "java.lang.String"), "texts joined by +", node);
    boolean divides = node.getKind() == Tree.Kind.DIVIDE || node.getKind() == Tree.Kind.REMAINDER;
    if (divides) mustBeLookedAt(node.getRightOperand(), "a divisor", node);
    return super.visitBinary(node, v);
  }

  @Override public Void visitCompoundAssignment(CompoundAssignmentTree node, Void v) {
    boolean divides = node.getKind() == Tree.Kind.DIVIDE_ASSIGNMENT || node.getKind() == Tree.Kind.REMAINDER_ASSIGNMENT;
    if (divides) mustBeLookedAt(node.getExpression(), "a divisor", node);
    must(10, !is(typeOf(node.getVariable()), "java.lang.String"), "texts joined by +=", node);
    return super.visitCompoundAssignment(node, v);
  }

  // ---- rule 7: what is looked at before it is used

  @Override public Void visitArrayAccess(ArrayAccessTree node, Void v) {
    mustBeLookedAt(node.getIndex(), "an index", node);
    return super.visitArrayAccess(node, v);
  }

  /** Each variable of it stands in a condition of the same method; constants need not. */
  private void mustBeLookedAt(ExpressionTree used, String as, Tree at) {
    Set<String> seen = methodPath() == null ? Set.of() : namesInConditions(methodPath().getLeaf());
    TreePath path = new TreePath(getCurrentPath(), used);
    new TreePathScanner<Void, Void>() {
      @Override public Void visitIdentifier(IdentifierTree node, Void v) {
        Element e = trees.getElement(getCurrentPath());
        boolean constant = e instanceof VariableElement x && x.getConstantValue() != null;
        must(7, constant || seen.contains(node.getName().toString()), as + " that is not looked at: " + used, at);
        return null;
      }
    }.scan(path, null);
    must(7, !used.toString().equals("0") || !as.equals("a divisor"), "a divisor of 0", at);
  }

  private static Set<String> namesInConditions(Tree method) {
    Set<String> names = new HashSet<>();
    TreeScanner<Void, Void> collect = new TreeScanner<>() {
      @Override public Void visitIdentifier(IdentifierTree node, Void v) {
        names.add(node.getName().toString());
        return null;
      }
    };
    new TreeScanner<Void, Void>() {
      @Override public Void visitIf(IfTree node, Void v) {
        collect.scan(node.getCondition(), null);
        return super.visitIf(node, v);
      }

      @Override public Void visitForLoop(ForLoopTree node, Void v) {
        collect.scan(node.getCondition(), null);
        return super.visitForLoop(node, v);
      }

      @Override public Void visitConditionalExpression(ConditionalExpressionTree node, Void v) {
        collect.scan(node.getCondition(), null);
        return super.visitConditionalExpression(node, v);
      }

      @Override public Void visitBinary(BinaryTree node, Void v) {
        boolean and = node.getKind() == Tree.Kind.CONDITIONAL_AND || node.getKind() == Tree.Kind.CONDITIONAL_OR;
        if (and) collect.scan(node, null);
        return super.visitBinary(node, v);
      }
    }.scan(method, null);
    return names;
  }

  // ---- rule 9: loops

  @Override public Void visitWhileLoop(WhileLoopTree node, Void v) {
    must(9, false, "a while whose end is not seen", node);
    return super.visitWhileLoop(node, v);
  }

  @Override public Void visitDoWhileLoop(DoWhileLoopTree node, Void v) {
    must(9, false, "a do whose end is not seen", node);
    return super.visitDoWhileLoop(node, v);
  }

  @Override public Void visitForLoop(ForLoopTree node, Void v) {
    boolean counts = node.getInitializer().size() == 1 && node.getUpdate().size() == 1 && node.getCondition() != null;
    must(9, counts, "a for without a counter", node);
    if (counts && node.getInitializer().get(0) instanceof VariableTree counter) {
      String name = counter.getName().toString(), condition = node.getCondition().toString(), update = node.getUpdate().get(0).getExpression().toString();
      must(9, condition.contains(name + " <") && update.equals(name + "++")
          || condition.contains(name + " >") && update.equals(name + "--"), "a counter that has no bound", node);
      must(9, !changes(node.getStatement(), name), "a counter that is changed inside", node);
    }
    return super.visitForLoop(node, v);
  }

  private static boolean changes(Tree body, String name) {
    return body.toString().matches("(?s).*\\b" + name + "\\s*([-+*/%|&^]?=[^=]|\\+\\+|--).*");
  }

  // ---- rules 8, 11: how deep calls go

  private void afterAll() {
    must(11, classes <= MOST_CLASSES, "more than twelve classes", null);
    for (List<Element> call : overridable) addOverriding(call.get(0), (ExecutableElement) call.get(1));
    Map<Element, Integer> deep = new HashMap<>();
    for (Element e : calls.keySet()) {
      int depth = depthOf(e, deep, new HashSet<>());
      must(11, depth <= MOST_DEEP, e.getSimpleName() + " goes " + depth + " calls deep", null);
    }
  }

  private void addOverriding(Element from, ExecutableElement method) {
    for (ExecutableElement other : methods) {
      boolean overrides = other != method && elements.overrides(other, method, (TypeElement) other.getEnclosingElement());
      if (overrides) calls.get(from).add(other);
    }
  }

  private int depthOf(Element e, Map<Element, Integer> deep, Set<Element> open) {
    if (deep.containsKey(e)) return deep.get(e);
    open.add(e);
    int most = 0;
    for (Element to : calls.getOrDefault(e, Set.of())) {
      if (open.contains(to)) must(8, false, to.getSimpleName() + " calls itself", null);
      else most = Math.max(most, depthOf(to, deep, open));
    }
    open.remove(e);
    deep.put(e, most + 1);
    return most + 1;
  }
}
