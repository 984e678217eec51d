import com.sun.source.tree.AssertTree;
import com.sun.source.tree.BinaryTree;
import com.sun.source.tree.ClassTree;
import com.sun.source.tree.CompilationUnitTree;
import com.sun.source.tree.ImportTree;
import com.sun.source.tree.LambdaExpressionTree;
import com.sun.source.tree.LiteralTree;
import com.sun.source.tree.MemberReferenceTree;
import com.sun.source.tree.MethodInvocationTree;
import com.sun.source.tree.MethodTree;
import com.sun.source.tree.NewClassTree;
import com.sun.source.tree.SynchronizedTree;
import com.sun.source.tree.ThrowTree;
import com.sun.source.tree.Tree;
import com.sun.source.tree.TryTree;
import com.sun.source.tree.VariableTree;
import com.sun.source.util.JavacTask;
import com.sun.source.util.TreePathScanner;
import com.sun.source.util.Trees;
import java.io.File;
import java.util.ArrayDeque;
import java.util.ArrayList;
import java.util.Arrays;
import java.util.Deque;
import java.util.HashMap;
import java.util.HashSet;
import java.util.List;
import java.util.Map;
import java.util.Set;
import java.util.TreeSet;
import javax.lang.model.element.Element;
import javax.lang.model.element.ElementKind;
import javax.lang.model.element.ExecutableElement;
import javax.lang.model.element.Modifier;
import javax.lang.model.element.TypeElement;
import javax.tools.JavaCompiler;
import javax.tools.StandardJavaFileManager;
import javax.tools.ToolProvider;

/**
 * Reads src/main/java/WheatCounts.java as the compiler does, and asks the rules of LANGUAGE.md that can be asked of
 * a text: the face, what there may be inside, the library, what is forbidden, how long, how many, how deep.
 * It is run from the project's folder, as .ci/run does.
 */
public final class WheatCountsLanguageTest {
  private static final String SOURCE = "src/main/java/WheatCounts.java";
  private static final String[] FACE = {
    "WheatCounts()", "field(int)", "sow(int,int,int)", "ofCell(int,int)", "lay(int,int)", "person(int,int)", "ofPerson(int,int)",
    "lead(int,int,int)", "become(int,int)", "as(int,int)", "feed(long,int)", "text(int)", "law(int,int,int,int)", "hours(int)",
    "loose(int)", "evening()", "hail(int)", "then(int,int)", "full(int)", "leads(int,int,int,int)", "sums(int,int)", "looked(int,int)",
    "watch()", "hide(int)", "gains(int,int)", "odds(int,int)", "seed(int)", "voice(int,int,int)", "trace(int)", "sheet(int,int,int)",
    "put(int,int,int)", "move(int,int,int,int,int)", "weeds(int)", "judge(int)", "image()", "restore()", "tell(int)", "check()",
    "count(int)", "told(int)"};
  /** Of what the rules allow only what the program has need of: a new one is looked up there first. */
  private static final Set<String> LIBRARY = Set.of(
      "java.lang.String.indexOf", "java.lang.Integer.bitCount", "java.lang.Math.max", "java.lang.Math.min",
      "java.lang.System.arraycopy", "java.util.Arrays.fill", "java.util.Arrays.copyOf", "java.lang.Object.<init>");
  private static final int MOST_LINES = 60;
  private static final int MOST_PARAMETERS = 7;
  private static final int MOST_CLASSES = 12;
  private static final int MOST_FIELDS = 20;
  private static final int MOST_CALLS_DEEP = 8;
  private static int wrong = 0;

  public static void main(String[] args) throws Exception {
    JavaCompiler compiler = ToolProvider.getSystemJavaCompiler();
    try (StandardJavaFileManager files = compiler.getStandardFileManager(null, null, null)) {
      JavacTask task = (JavacTask) compiler.getTask(null, files, null, List.of("-proc:none"), null,
          files.getJavaFileObjects(new File(SOURCE)));
      CompilationUnitTree unit = task.parse().iterator().next();
      task.analyze();
      Reading reading = new Reading(unit, Trees.instance(task));
      reading.scan(unit, null);
      reading.askWhole();
    }
    System.out.println(wrong == 0 ? "the rules of the language are kept" : wrong + " rules are broken");
    if (wrong != 0) {
      System.exit(1);
    }
  }

  private static void rule(int number, boolean kept, String what) {
    if (!kept) {
      wrong++;
      System.out.println("rule " + number + ": " + what);
    }
  }

  private static final class Reading extends TreePathScanner<Void, Void> {
    private final CompilationUnitTree unit;
    private final Trees trees;
    private final Map<Element, Set<Element>> calls = new HashMap<>();
    private final Deque<Element> methods = new ArrayDeque<>();
    private final Set<String> face = new TreeSet<>();
    private final Set<String> publicNames = new HashSet<>();
    private final List<ExecutableElement> privateMethods = new ArrayList<>();
    private int classes = 0;

    Reading(CompilationUnitTree unit, Trees trees) {
      this.unit = unit;
      this.trees = trees;
    }

    private Element here() {
      return trees.getElement(getCurrentPath());
    }

    private static boolean isOuter(Element e) {
      return e.getSimpleName().contentEquals("WheatCounts");
    }

    private static boolean isOwn(Element e) {
      Element at = e;
      while (at.getEnclosingElement() != null && at.getEnclosingElement().getKind() != ElementKind.PACKAGE) {
        at = at.getEnclosingElement();
      }
      return isOuter(at);
    }

    private void refuse(int number, Tree tree) {
      long line = unit.getLineMap().getLineNumber(trees.getSourcePositions().getStartPosition(unit, tree));
      rule(number, false, "line " + line + ": " + tree.getKind());
    }

    private int linesOf(Tree tree) {
      long start = trees.getSourcePositions().getStartPosition(unit, tree);
      long end = trees.getSourcePositions().getEndPosition(unit, tree);
      return (int) (unit.getLineMap().getLineNumber(end) - unit.getLineMap().getLineNumber(start)) + 1;
    }

    @Override public Void visitImport(ImportTree tree, Void none) {
      rule(4, tree.getQualifiedIdentifier().toString().matches("java\\.util\\.(Arrays|ArrayList|List)") && !tree.isStatic(), "" + tree);
      return super.visitImport(tree, none);
    }

    @Override public Void visitClass(ClassTree tree, Void none) {
      classes++;
      Element e = here();
      Set<Modifier> is = e.getModifiers();
      if (isOuter(e)) {
        rule(1, is.contains(Modifier.PUBLIC) && is.contains(Modifier.FINAL), "the class is public and final");
      } else {
        rule(2, methods.isEmpty() && is.contains(Modifier.STATIC), "inside another: " + e);
        rule(1, !is.contains(Modifier.PUBLIC) && !is.contains(Modifier.PROTECTED), "open: " + e);
      }
      int fields = 0;
      for (Element member : e.getEnclosedElements()) {
        boolean open = !member.getModifiers().contains(Modifier.PRIVATE);
        if (member.getKind() == ElementKind.FIELD) {
          boolean fixed = member.getModifiers().contains(Modifier.STATIC);
          fields += fixed ? 0 : 1;
          rule(5, !fixed || member.getModifiers().contains(Modifier.FINAL), "static and not final: " + member);
          rule(1, !isOuter(e) || !open, "open: " + member);
        }
        rule(5, member.getKind() != ElementKind.STATIC_INIT, "a static block in " + e);
      }
      rule(11, fields <= MOST_FIELDS, e + " has " + fields + " fields");
      return super.visitClass(tree, none);
    }

    @Override public Void visitMethod(MethodTree tree, Void none) {
      ExecutableElement e = (ExecutableElement) here();
      Set<Modifier> is = e.getModifiers();
      TypeElement owner = (TypeElement) e.getEnclosingElement();
      rule(11, tree.getParameters().size() <= MOST_PARAMETERS, e + " takes too many");
      rule(11, linesOf(tree) <= MOST_LINES, e + " is too long");
      rule(6, !Set.of("equals", "hashCode", "toString").contains(e.getSimpleName().toString()), "" + e);
      rule(6, tree.getThrows().isEmpty(), e + " throws");
      if (isOuter(owner) && !is.contains(Modifier.PRIVATE)) {
        boolean made = e.getKind() == ElementKind.CONSTRUCTOR;
        rule(1, is.contains(Modifier.PUBLIC) && !is.contains(Modifier.STATIC), "open: " + e);
        rule(1, made || e.getReturnType().toString().equals("int"), "answers no int: " + e);
        face.add(e.toString());
        publicNames.add(e.getSimpleName().toString());
      } else if (is.contains(Modifier.PRIVATE)) {
        privateMethods.add(e);
      }
      calls.put(e, new HashSet<>());
      methods.push(e);
      super.visitMethod(tree, none);
      methods.pop();
      return null;
    }

    private void called(Element e) {
      if (!methods.isEmpty()) {
        calls.get(methods.peek()).add(e);
      }
      rule(4, isOwn(e) || LIBRARY.contains(e.getEnclosingElement() + "." + e.getSimpleName()), e.getEnclosingElement() + "." + e);
    }

    @Override public Void visitMethodInvocation(MethodInvocationTree tree, Void none) {
      called(here());
      return super.visitMethodInvocation(tree, none);
    }

    @Override public Void visitNewClass(NewClassTree tree, Void none) {
      if (tree.getClassBody() != null) {
        refuse(2, tree);
      }
      called(here());
      return super.visitNewClass(tree, none);
    }

    @Override public Void visitVariable(VariableTree tree, Void none) {
      String type = trees.getTypeMirror(getCurrentPath()).toString();
      String bare = type.replaceAll("\\[\\]", "");
      boolean number = Set.of("int", "long", "short", "byte", "char", "boolean", "double", "float").contains(bare);
      boolean known = number || bare.startsWith("WheatCounts.") || bare.equals("java.lang.String");
      rule(3, known && (number || type.length() - bare.length() <= 2) && type.length() - bare.length() <= 4, type + " " + tree.getName());
      return super.visitVariable(tree, none);
    }

    @Override public Void visitLiteral(LiteralTree tree, Void none) {
      if (tree.getValue() instanceof String) {
        rule(4, ((String) tree.getValue()).chars().allMatch(c -> c > 0 && c < 128), "a sign beyond 127: " + tree);
      }
      return super.visitLiteral(tree, none);
    }

    @Override public Void visitBinary(BinaryTree tree, Void none) {
      if (tree.getKind() == Tree.Kind.PLUS && trees.getTypeMirror(getCurrentPath()).toString().equals("java.lang.String")) {
        refuse(10, tree);
      }
      return super.visitBinary(tree, none);
    }

    @Override public Void visitThrow(ThrowTree tree, Void none) {
      refuse(6, tree);
      return super.visitThrow(tree, none);
    }

    @Override public Void visitTry(TryTree tree, Void none) {
      refuse(6, tree);
      return super.visitTry(tree, none);
    }

    @Override public Void visitSynchronized(SynchronizedTree tree, Void none) {
      refuse(6, tree);
      return super.visitSynchronized(tree, none);
    }

    @Override public Void visitAssert(AssertTree tree, Void none) {
      refuse(6, tree);
      return super.visitAssert(tree, none);
    }

    @Override public Void visitLambdaExpression(LambdaExpressionTree tree, Void none) {
      refuse(2, tree);
      return super.visitLambdaExpression(tree, none);
    }

    @Override public Void visitMemberReference(MemberReferenceTree tree, Void none) {
      refuse(2, tree);
      return super.visitMemberReference(tree, none);
    }

    // ---- what is asked of the whole

    void askWhole() {
      rule(1, unit.getPackageName() == null && unit.getTypeDecls().size() == 1, "one class without a package");
      rule(1, face.equals(new TreeSet<>(Arrays.asList(FACE))), "the face is " + face);
      for (ExecutableElement e : privateMethods) {
        rule(1, !publicNames.contains(e.getSimpleName().toString()), "private, with the name of a public one: " + e);
      }
      rule(11, classes <= MOST_CLASSES, classes + " classes");
      for (Element e : calls.keySet()) {
        int deep = depthOf(e, new ArrayDeque<>());
        rule(11, deep <= MOST_CALLS_DEEP, e + ": calls go " + deep + " deep");
        if (reaches(e, e, new HashSet<>())) {
          rule(8, e.getModifiers().contains(Modifier.PRIVATE), "calls itself: " + e);
        }
      }
    }

    /** How deep own calls go, this one counted; a call of one that stands open is recursion, and left out. */
    private int depthOf(Element e, Deque<Element> open) {
      int deepest = 0;
      open.push(e);
      for (Element next : calls.getOrDefault(e, Set.of())) {
        if (calls.containsKey(next) && !open.contains(next)) {
          deepest = Math.max(deepest, depthOf(next, open));
        }
      }
      open.pop();
      return deepest + 1;
    }

    private boolean reaches(Element from, Element to, Set<Element> seen) {
      for (Element next : calls.getOrDefault(from, Set.of())) {
        if (next.equals(to) || calls.containsKey(next) && seen.add(next) && reaches(next, to, seen)) {
          return true;
        }
      }
      return false;
    }
  }
}
