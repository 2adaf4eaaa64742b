import com.sun.source.tree.*;
import com.sun.source.util.JavacTask;
import com.sun.source.util.TreePath;
import com.sun.source.util.TreePathScanner;
import com.sun.source.util.Trees;
import java.io.File;
import java.util.*;
import javax.lang.model.element.*;
import javax.lang.model.type.ArrayType;
import javax.lang.model.type.TypeMirror;
import javax.tools.JavaCompiler;
import javax.tools.JavaFileObject;
import javax.tools.StandardJavaFileManager;
import javax.tools.ToolProvider;

/** Reads src/main/java/MostSold.java by the compiler's own tree, and tells what breaks ../shared/LANGUAGE.md. */
public final class LanguageTest extends TreePathScanner<Void, Void> {
  private static final Set<String> FACE = Set.of(
      "title", "thing", "shop", "tells", "empty", "coins", "sale", "read", "about", "strike", "back", "asOf", "type", "wipe",
      "fault", "rule", "why", "amount", "sum", "sure", "place", "line", "span", "firm", "alike", "odd", "cannot", "doubted",
      "moves", "worth", "ask", "sheet", "lose", "put", "get", "copy", "write", "count", "digest");
  private static final Set<Tree.Kind> BARRED = EnumSet.of(
      Tree.Kind.THROW, Tree.Kind.TRY, Tree.Kind.CATCH, Tree.Kind.SYNCHRONIZED, Tree.Kind.ASSERT, Tree.Kind.LAMBDA_EXPRESSION,
      Tree.Kind.MEMBER_REFERENCE, Tree.Kind.IMPORT, Tree.Kind.PACKAGE, Tree.Kind.ANNOTATION, Tree.Kind.STRING_LITERAL,
      Tree.Kind.SWITCH_EXPRESSION, Tree.Kind.INSTANCE_OF);
  private static final Set<String> LIBRARY = Set.of(
      "java.lang.Math.min(long,long)", "java.lang.Math.max(long,long)", "java.lang.Math.min(int,int)",
      "java.lang.Integer.bitCount(int)", "java.lang.Object.Object()",
      "java.lang.System.arraycopy(java.lang.Object,int,java.lang.Object,int,int)");
  private static final Set<String> LIBRARY_FIELDS = Set.of("java.lang.Long.MIN_VALUE", "Array.length");
  private static final int MOST_DEEP = 8, MOST_LINES = 60, MOST_CLASSES = 12, MOST_FIELDS = 20, MOST_PARAMETERS = 7;

  private final Trees trees;
  private final CompilationUnitTree unit;
  private final Map<Element, Set<Element>> calls = new LinkedHashMap<>();
  private final Set<String> faceFound = new TreeSet<>();
  private int classes = 0;

  private LanguageTest(Trees trees, CompilationUnitTree unit) {
    this.trees = trees;
    this.unit = unit;
  }

  public static void main(String[] args) throws Exception {
    JavaCompiler compiler = ToolProvider.getSystemJavaCompiler();
    StandardJavaFileManager files = compiler.getStandardFileManager(null, null, null);
    Iterable<? extends JavaFileObject> source = files.getJavaFileObjects(new File("src/main/java/MostSold.java"));
    JavacTask task = (JavacTask) compiler.getTask(null, files, null, List.of("-proc:none"), null, source);
    CompilationUnitTree unit = task.parse().iterator().next();
    task.analyze();
    LanguageTest test = new LanguageTest(Trees.instance(task), unit);
    test.scan(unit, null);
    test.check(test.classes <= MOST_CLASSES, "more than " + MOST_CLASSES + " classes", unit);
    test.check(unit.getTypeDecls().size() == 1, "more than one class outside", unit);
    test.check(test.faceFound.equals(new TreeSet<>(FACE)), "the face is not whole: " + test.faceFound, unit);
    for (Element method : test.calls.keySet()) test.deep(method, new ArrayDeque<>());
    Due.close();
  }

  private void check(boolean holds, String what, Tree where) {
    long at = trees.getSourcePositions().getStartPosition(unit, where);
    Due.is(holds ? "" : "line " + unit.getLineMap().getLineNumber(Math.max(0, at)) + ": " + what, holds ? 1 : 0, 1);
  }

  private int deep(Element method, Deque<Element> open) {
    check(!open.contains(method), "recursion through " + method, unit);
    if (open.contains(method)) return 0;
    open.push(method);
    int most = 0;
    for (Element called : calls.getOrDefault(method, Set.of())) most = Math.max(most, deep(called, open));
    open.pop();
    check(open.size() + 1 <= MOST_DEEP, "calls more than " + MOST_DEEP + " deep at " + method, unit);
    return most + 1;
  }

  @Override
  public Void scan(Tree tree, Void none) {
    if (tree != null) check(!BARRED.contains(tree.getKind()), "barred: " + tree.getKind(), tree);
    return super.scan(tree, none);
  }

  @Override
  public Void visitClass(ClassTree tree, Void none) {
    Element own = trees.getElement(getCurrentPath());
    boolean outside = own.getEnclosingElement().getKind() == ElementKind.PACKAGE;
    Set<Modifier> modifiers = own.getModifiers();
    if (outside) {
      check(modifiers.equals(Set.of(Modifier.PUBLIC, Modifier.FINAL)), "the class is not public and final", tree);
    } else {
      classes++;
      check(own.getEnclosingElement().getKind() == ElementKind.CLASS, "a local class", tree);
      check(modifiers.contains(Modifier.STATIC) && !modifiers.contains(Modifier.PUBLIC), "not a static class inside", tree);
    }
    int fields = 0;
    for (Element e : own.getEnclosedElements()) if (e.getKind() == ElementKind.FIELD && !e.getModifiers().contains(Modifier.STATIC)) fields++;
    check(fields <= MOST_FIELDS, "more than " + MOST_FIELDS + " fields in " + own, tree);
    return super.visitClass(tree, none);
  }

  @Override
  public Void visitBlock(BlockTree tree, Void none) {
    boolean initialiser = getCurrentPath().getParentPath().getLeaf() instanceof ClassTree;
    check(!initialiser, "an initialiser block", tree);
    return super.visitBlock(tree, none);
  }

  @Override
  public Void visitVariable(VariableTree tree, Void none) {
    Element own = trees.getElement(getCurrentPath());
    Set<Modifier> modifiers = own.getModifiers();
    if (own.getKind() == ElementKind.FIELD) {
      boolean outside = own.getEnclosingElement().getSimpleName().contentEquals("MostSold");
      boolean constant = modifiers.contains(Modifier.STATIC);
      check(!constant || modifiers.contains(Modifier.FINAL), "static and not final: " + own, tree);
      boolean face = Set.of("NONE", "BAD", "NOT", "FULL").contains(own.getSimpleName().toString());
      check(!outside || modifiers.contains(Modifier.PRIVATE) || face, "not private: " + own, tree);
    }
    checkType(own.asType(), tree);
    return super.visitVariable(tree, none);
  }

  private void checkType(TypeMirror type, Tree where) {
    int dimensions = 0;
    TypeMirror t = type;
    while (t instanceof ArrayType a) {
      t = a.getComponentType();
      dimensions++;
    }
    boolean plain = t.getKind().isPrimitive();
    boolean ours = t.toString().startsWith("MostSold");
    check(plain || ours, "a type that is not listed: " + type, where);
    check(dimensions <= (plain ? 2 : 1), "too many dimensions: " + type, where);
  }

  @Override
  public Void visitMethod(MethodTree tree, Void none) {
    Element own = trees.getElement(getCurrentPath());
    Set<Modifier> modifiers = own.getModifiers();
    boolean outside = own.getEnclosingElement().getSimpleName().contentEquals("MostSold");
    String name = tree.getName().toString();
    calls.computeIfAbsent(own, k -> new LinkedHashSet<>());
    if (outside && modifiers.contains(Modifier.PUBLIC)) {
      if (own.getKind() == ElementKind.METHOD) faceFound.add(name);
    } else {
      check(!outside || modifiers.contains(Modifier.PRIVATE), "neither public nor private: " + name, tree);
      check(!FACE.contains(name), "bears the name of a public method: " + name, tree);
      check(!Set.of("equals", "hashCode", "toString").contains(name), "barred: " + name, tree);
    }
    check(tree.getParameters().size() <= MOST_PARAMETERS, "too many parameters: " + name, tree);
    long first = unit.getLineMap().getLineNumber(trees.getSourcePositions().getStartPosition(unit, tree));
    long last = unit.getLineMap().getLineNumber(Math.max(1, trees.getSourcePositions().getEndPosition(unit, tree)));
    check(last - first < MOST_LINES, "too long: " + name, tree);
    return super.visitMethod(tree, none);
  }

  @Override
  public Void visitMethodInvocation(MethodInvocationTree tree, Void none) {
    note(trees.getElement(getCurrentPath()), tree);
    return super.visitMethodInvocation(tree, none);
  }

  @Override
  public Void visitNewClass(NewClassTree tree, Void none) {
    check(tree.getClassBody() == null, "an anonymous class", tree);
    note(trees.getElement(getCurrentPath()), tree);
    return super.visitNewClass(tree, none);
  }

  private void note(Element called, Tree where) {
    boolean ours = called.getEnclosingElement().toString().startsWith("MostSold");
    check(ours || LIBRARY.contains(called.getEnclosingElement() + "." + (called.getKind() == ElementKind.CONSTRUCTOR ? "Object()" : called)),
        "from the library: " + called.getEnclosingElement() + "." + called, where);
    for (TreePath p = getCurrentPath(); p != null; p = p.getParentPath()) {
      if (p.getLeaf() instanceof MethodTree) calls.computeIfAbsent(trees.getElement(p), k -> new LinkedHashSet<>()).add(called);
    }
  }

  @Override
  public Void visitMemberSelect(MemberSelectTree tree, Void none) {
    Element e = trees.getElement(getCurrentPath());
    if (e != null && e.getKind() == ElementKind.FIELD) {
      Element in = e.getEnclosingElement();
      boolean ours = in != null && in.toString().startsWith("MostSold");
      check(ours || LIBRARY_FIELDS.contains(in + "." + e), "from the library: " + in + "." + e, tree);
    }
    return super.visitMemberSelect(tree, none);
  }

  @Override
  public Void visitNewArray(NewArrayTree tree, Void none) {
    for (TreePath p = getCurrentPath(); p != null; p = p.getParentPath()) {
      if (p.getLeaf() instanceof MethodTree m) {
        check(m.getReturnType() == null, "an array that is not made in a constructor", tree);
      }
    }
    return super.visitNewArray(tree, none);
  }
}
