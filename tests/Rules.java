import com.sun.management.ThreadMXBean;
import com.sun.source.tree.BinaryTree;
import com.sun.source.tree.CatchTree;
import com.sun.source.tree.ClassTree;
import com.sun.source.tree.CompilationUnitTree;
import com.sun.source.tree.CompoundAssignmentTree;
import com.sun.source.tree.ImportTree;
import com.sun.source.tree.LambdaExpressionTree;
import com.sun.source.tree.LiteralTree;
import com.sun.source.tree.MemberReferenceTree;
import com.sun.source.tree.MethodInvocationTree;
import com.sun.source.tree.MethodTree;
import com.sun.source.tree.NewClassTree;
import com.sun.source.tree.ThrowTree;
import com.sun.source.tree.Tree;
import com.sun.source.tree.TryTree;
import com.sun.source.tree.VariableTree;
import com.sun.source.tree.WhileLoopTree;
import com.sun.source.util.JavacTask;
import com.sun.source.util.TreePathScanner;
import com.sun.source.util.Trees;
import java.io.File;
import java.lang.management.ManagementFactory;
import java.lang.reflect.Constructor;
import java.lang.reflect.Member;
import java.lang.reflect.Method;
import java.lang.reflect.Modifier;
import java.util.ArrayList;
import java.util.Arrays;
import java.util.HashMap;
import java.util.HashSet;
import java.util.List;
import java.util.Map;
import java.util.Set;
import java.util.TreeSet;
import javax.lang.model.element.Element;
import javax.lang.model.element.ElementKind;
import javax.tools.JavaCompiler;
import javax.tools.StandardJavaFileManager;
import javax.tools.ToolProvider;

/** The face, and the rules of LANGUAGE.md that a program can look at; run from the project's root. */
public final class Rules {
  private static final String FILE = "src/main/java/Twincuts.java";
  private static final String[] FACE = {
    "int between(int, int, int) IndexOutOfBoundsException IllegalArgumentException",
    "int cut(int, boolean) IndexOutOfBoundsException",
    "long digest()",
    "boolean isSound()",
    "int knock()",
    "int line(int, int, int) IndexOutOfBoundsException IllegalArgumentException IllegalStateException",
    "int net(int) IllegalArgumentException",
    "int ofLine(int, int) IndexOutOfBoundsException IllegalArgumentException",
    "int ofPoint(int, int) IndexOutOfBoundsException IllegalArgumentException",
    "int order(int, int) IndexOutOfBoundsException",
    "int pair(int, boolean) IllegalArgumentException",
    "int point() IllegalStateException",
    "int price(int, int) IndexOutOfBoundsException IllegalArgumentException",
    "String row(int) IndexOutOfBoundsException",
    "long trees()",
    "int turn(int, int) IndexOutOfBoundsException",
    "int twin(int, boolean) IllegalArgumentException",
    "int without(int, int) IllegalArgumentException",
    "long wouldLink(int, int) IndexOutOfBoundsException IllegalArgumentException",
    "int wouldTurn(int) IndexOutOfBoundsException"};
  private static final Set<String> LIBRARY = new HashSet<>(Arrays.asList(
      "java.lang.Math.min", "java.lang.Math.max", "java.lang.Integer.bitCount",
      "java.lang.StringBuilder.append", "java.lang.StringBuilder.toString"));
  private static final Set<String> EXCEPTIONS = new HashSet<>(Arrays.asList(
      "IllegalStateException", "IllegalArgumentException", "IndexOutOfBoundsException"));
  private static int wrong = 0;

  public static void main(String[] args) throws Exception {
    checkFace();
    checkMembers();
    checkSource();
    checkRoom();
    System.out.println("the rules were looked at, " + wrong + " were broken");
    if (wrong != 0) System.exit(1);
  }

  private static void demand(boolean is, String what) {
    if (!is) {
      wrong++;
      System.out.println(what);
    }
  }

  // ---- the face (rule 1)

  private static void checkFace() {
    demand(Modifier.isPublic(Twincuts.class.getModifiers()) && Modifier.isFinal(Twincuts.class.getModifiers()),
        "the class is not public and final");
    Set<String> found = new TreeSet<>();
    for (Method m : Twincuts.class.getDeclaredMethods()) {
      if (!Modifier.isPublic(m.getModifiers())) continue;
      demand(!Modifier.isStatic(m.getModifiers()), m + " is static");
      found.add(signature(m));
    }
    demand(found.equals(new TreeSet<>(Arrays.asList(FACE))), "the face is " + found);
    Constructor<?>[] makers = Twincuts.class.getDeclaredConstructors();
    demand(makers.length == 1 && Modifier.isPublic(makers[0].getModifiers()) && makers[0].getParameterCount() == 0
        && makers[0].getExceptionTypes().length == 0, "the constructor is another one");
  }

  private static String signature(Method m) {
    List<String> takes = new ArrayList<>();
    for (Class<?> c : m.getParameterTypes()) takes.add(c.getSimpleName());
    StringBuilder s = new StringBuilder(m.getReturnType().getSimpleName() + " " + m.getName());
    s.append('(').append(String.join(", ", takes)).append(')');
    for (Class<?> c : m.getExceptionTypes()) s.append(' ').append(c.getSimpleName());
    return s.toString();
  }

  private static void checkMembers() {
    Set<String> faceNames = new HashSet<>();
    for (Method m : Twincuts.class.getMethods()) faceNames.add(m.getName());
    List<Member> own = new ArrayList<>(Arrays.asList(Twincuts.class.getDeclaredFields()));
    own.addAll(Arrays.asList(Twincuts.class.getDeclaredMethods()));
    for (Member m : own) {
      boolean isFace = m instanceof Method && Modifier.isPublic(m.getModifiers());
      demand(isFace || Modifier.isPrivate(m.getModifiers()), m + " is not private");
      demand(isFace || !(m instanceof Method) || !faceNames.contains(m.getName()), m + " bears a name of the face");
    }
    Class<?>[] inside = Twincuts.class.getDeclaredClasses();
    demand(inside.length < 12, "there are more than 12 classes");
    for (Class<?> c : inside) {
      demand(Modifier.isStatic(c.getModifiers()) && !Modifier.isPublic(c.getModifiers()), c + " is no class of its own");
      for (Method m : c.getDeclaredMethods()) demand(!faceNames.contains(m.getName()), m + " bears a name of the face");
    }
  }

  // ---- the source (rules 4 to 6, 8, 10 and 11)

  private static void checkSource() throws Exception {
    JavaCompiler compiler = ToolProvider.getSystemJavaCompiler();
    StandardJavaFileManager files = compiler.getStandardFileManager(null, null, null);
    JavacTask task = (JavacTask) compiler.getTask(null, files, null, Arrays.asList("-proc:none"), null,
        files.getJavaFileObjects(new File(FILE)));
    Iterable<? extends CompilationUnitTree> units = task.parse();
    task.analyze();
    for (CompilationUnitTree unit : units) {
      Looker looker = new Looker(Trees.instance(task), unit);
      looker.scan(unit, null);
      demand(unit.getPackageName() == null, "there is a package line");
      looker.checkDepth();
    }
  }

  private static final class Looker extends TreePathScanner<Void, Void> {
    private final Trees trees;
    private final CompilationUnitTree unit;
    private final Map<Element, Set<Element>> calls = new HashMap<>();
    private Element method = null;
    private int fields = 0;

    Looker(Trees trees, CompilationUnitTree unit) {
      this.trees = trees;
      this.unit = unit;
    }

    private long row(long position) {
      return unit.getLineMap().getLineNumber(position);
    }

    private String where(Tree t) {
      return "line " + row(trees.getSourcePositions().getStartPosition(unit, t)) + ": ";
    }

    private Element element() {
      return trees.getElement(getCurrentPath());
    }

    @Override
    public Void visitClass(ClassTree t, Void v) {
      int outside = fields;
      fields = 0;
      super.visitClass(t, v);
      demand(fields <= 20, where(t) + fields + " fields");
      fields = outside;
      return null;
    }

    @Override
    public Void visitVariable(VariableTree t, Void v) {
      if (element().getKind() == ElementKind.FIELD) {
        boolean isStatic = element().getModifiers().contains(javax.lang.model.element.Modifier.STATIC);
        boolean isFinal = element().getModifiers().contains(javax.lang.model.element.Modifier.FINAL);
        demand(!isStatic || isFinal, where(t) + "a static field that is not final");
        if (!isStatic) fields++;
      }
      return super.visitVariable(t, v);
    }

    @Override
    public Void visitMethod(MethodTree t, Void v) {
      method = element();
      calls.put(method, new HashSet<>());
      demand(t.getParameters().size() <= 7, where(t) + "more than 7 parameters");
      long first = trees.getSourcePositions().getStartPosition(unit, t);
      long last = trees.getSourcePositions().getEndPosition(unit, t);
      demand(last < 0 || row(last) - row(first) < 60, where(t) + "a method of more than 60 lines");
      super.visitMethod(t, v);
      method = null;
      return null;
    }

    @Override
    public Void visitMethodInvocation(MethodInvocationTree t, Void v) {
      Element called = element();
      String owner = called.getEnclosingElement().toString();
      if (owner.equals("Twincuts") || owner.startsWith("Twincuts.")) {
        if (method != null) calls.get(method).add(called);
      } else if (called.getKind() != ElementKind.CONSTRUCTOR) {
        demand(LIBRARY.contains(owner + "." + called.getSimpleName()), where(t) + "calls " + owner + "." + called);
      }
      return super.visitMethodInvocation(t, v);
    }

    @Override
    public Void visitThrow(ThrowTree t, Void v) {
      demand(method != null && method.getKind() == ElementKind.METHOD, where(t) + "a throw in a constructor");
      boolean isNew = t.getExpression() instanceof NewClassTree;
      demand(isNew, where(t) + "throws what is not new");
      if (isNew) {
        NewClassTree made = (NewClassTree) t.getExpression();
        demand(EXCEPTIONS.contains(made.getIdentifier().toString()), where(t) + "throws another exception");
        demand(made.getArguments().stream().allMatch(a -> a instanceof LiteralTree), where(t) + "a text that is not written");
      }
      return super.visitThrow(t, v);
    }

    @Override
    public Void visitBinary(BinaryTree t, Void v) {
      demand(t.getKind() != Tree.Kind.PLUS || trees.getTypeMirror(getCurrentPath()).getKind().isPrimitive(),
          where(t) + "texts are joined by +");
      return super.visitBinary(t, v);
    }

    @Override
    public Void visitCompoundAssignment(CompoundAssignmentTree t, Void v) {
      demand(trees.getTypeMirror(getCurrentPath()).getKind().isPrimitive(), where(t) + "texts are joined by +=");
      return super.visitCompoundAssignment(t, v);
    }

    @Override
    public Void visitWhileLoop(WhileLoopTree t, Void v) {
      demand(false, where(t) + "a loop without a counter");
      return super.visitWhileLoop(t, v);
    }

    @Override
    public Void visitTry(TryTree t, Void v) {
      demand(false, where(t) + "a try");
      return super.visitTry(t, v);
    }

    @Override
    public Void visitCatch(CatchTree t, Void v) {
      demand(false, where(t) + "a catch");
      return super.visitCatch(t, v);
    }

    @Override
    public Void visitImport(ImportTree t, Void v) {
      demand(false, where(t) + "an import");
      return super.visitImport(t, v);
    }

    @Override
    public Void visitLambdaExpression(LambdaExpressionTree t, Void v) {
      demand(false, where(t) + "a lambda");
      return super.visitLambdaExpression(t, v);
    }

    @Override
    public Void visitMemberReference(MemberReferenceTree t, Void v) {
      demand(false, where(t) + "a method reference");
      return super.visitMemberReference(t, v);
    }

    /** A call of the face is the first, and a call of the library counts, too. */
    void checkDepth() {
      for (Element m : calls.keySet()) {
        int depth = depthOf(m, new HashSet<>());
        demand(depth <= 8, m + " goes " + depth + " deep");
      }
    }

    private int depthOf(Element m, Set<Element> open) {
      if (!open.add(m)) return 0;
      int deepest = 0;
      for (Element called : calls.getOrDefault(m, Set.of())) deepest = Math.max(deepest, depthOf(called, open));
      open.remove(m);
      return deepest + 1;
    }
  }

  // ---- what all calls of a run make (rule 12)

  private static void checkRoom() {
    ThreadMXBean bean = (ThreadMXBean) ManagementFactory.getThreadMXBean();
    long before = bean.getCurrentThreadAllocatedBytes();
    Twincuts x = new Twincuts();
    for (int p = 0; p < 8; p++) x.point();
    for (int l = 0; l < 16; l++) x.line(l % 8, (l + 1 + l / 8) % 8, 1 + l);
    long sum = 0;
    for (int k = 0; k < 488; k++) sum += k % 2 == 0 ? x.digest() : x.row(k % 8).length();
    long made = bean.getCurrentThreadAllocatedBytes() - before;
    demand(made < 500_000, "a run of 512 calls makes " + made + " bytes (" + sum + ")");
  }
}
