import com.sun.source.tree.BinaryTree;
import com.sun.source.tree.ClassTree;
import com.sun.source.tree.CompilationUnitTree;
import com.sun.source.tree.DoWhileLoopTree;
import com.sun.source.tree.ForLoopTree;
import com.sun.source.tree.IdentifierTree;
import com.sun.source.tree.LiteralTree;
import com.sun.source.tree.MemberSelectTree;
import com.sun.source.tree.MethodInvocationTree;
import com.sun.source.tree.MethodTree;
import com.sun.source.tree.NewArrayTree;
import com.sun.source.tree.NewClassTree;
import com.sun.source.tree.ThrowTree;
import com.sun.source.tree.Tree;
import com.sun.source.tree.VariableTree;
import com.sun.source.tree.WhileLoopTree;
import com.sun.source.util.JavacTask;
import com.sun.source.util.SourcePositions;
import com.sun.source.util.TreeScanner;
import com.sun.source.util.Trees;
import java.lang.reflect.Method;
import java.nio.file.Path;
import java.util.ArrayList;
import java.util.Arrays;
import java.util.HashSet;
import java.util.List;
import java.util.Map;
import java.util.Set;
import java.util.TreeMap;
import java.util.TreeSet;
import java.util.stream.Collectors;
import javax.lang.model.element.Modifier;
import javax.tools.JavaCompiler;
import javax.tools.StandardJavaFileManager;
import javax.tools.ToolProvider;

/** What of LANGUAGE.md a program can see: the face, forbidden forms, lengths and counts. */
public final class LanguageTest {
  /** The lines of the document's face, as they stand there. */
  private static final String[] FACE = {
    "public FirstdanceAgency();",
    "public int player(int instruments, int songs, int home, int fee)"
        + " throws IndexOutOfBoundsException, IllegalArgumentException, IllegalStateException;",
    "public int learn(int player, int songs) throws IndexOutOfBoundsException, IllegalArgumentException;",
    "public int song(int song, int key, int energy, int minutes)"
        + " throws IndexOutOfBoundsException, IllegalArgumentException;",
    "public boolean feud(int one, int other, boolean is) throws IndexOutOfBoundsException, IllegalArgumentException;",
    "public int road(int one, int other, int hours) throws IndexOutOfBoundsException, IllegalArgumentException;",
    "public int band(int shape) throws IllegalArgumentException, IllegalStateException;",
    "public int ask(int band, int day, int town, int start, int length, int songs)"
        + " throws IndexOutOfBoundsException, IllegalArgumentException, IllegalStateException;",
    "public int fix(int wedding) throws IndexOutOfBoundsException, IllegalStateException;",
    "public int cancel(int wedding) throws IndexOutOfBoundsException, IllegalStateException;",
    "public int ill(int player, int day) throws IndexOutOfBoundsException, IllegalArgumentException;",
    "public int late(int wedding, int minutes)"
        + " throws IndexOutOfBoundsException, IllegalArgumentException, IllegalStateException;",
    "public int pass(int days) throws IllegalArgumentException, IllegalStateException;",
    "public int ofPlayer(int player, int what) throws IndexOutOfBoundsException, IllegalArgumentException;",
    "public int ofSong(int song, int what) throws IndexOutOfBoundsException, IllegalArgumentException;",
    "public int ofBand(int band, int what) throws IndexOutOfBoundsException, IllegalArgumentException;",
    "public int ofWedding(int wedding, int what) throws IndexOutOfBoundsException, IllegalArgumentException;",
    "public int drive(int one, int other) throws IndexOutOfBoundsException;",
    "public boolean free(int player, int wedding) throws IndexOutOfBoundsException;",
    "public int filling(int wedding, int what) throws IndexOutOfBoundsException, IllegalArgumentException;",
    "public int set(int players, boolean isMinutes) throws IllegalArgumentException;",
    "public String songs(int wedding) throws IndexOutOfBoundsException;",
    "public int desk(int what) throws IllegalArgumentException;",
    "public String tell(int wedding) throws IndexOutOfBoundsException;",
    "public int wouldLose(int player, int day) throws IndexOutOfBoundsException, IllegalArgumentException;",
    "public int plan(int day, boolean isSet) throws IllegalArgumentException;",
    "public int wouldCancel(int wedding) throws IndexOutOfBoundsException, IllegalStateException;",
    "public int key(int wedding) throws IndexOutOfBoundsException;",
    "public boolean isSound();",
    "public long digest();",
  };

  public static void main(String[] args) throws Exception {
    face();
    source(Path.of(System.getProperty("agency.source", "src/main/java/FirstdanceAgency.java")));
    Checks.end("LanguageTest");
  }

  /** As compiled: nothing but the face can be seen from outside. */
  private static void face() {
    Method[] seen = Arrays.stream(FirstdanceAgency.class.getDeclaredMethods())
        .filter(m -> !java.lang.reflect.Modifier.isPrivate(m.getModifiers())).toArray(Method[]::new);
    Checks.due("methods and the constructor", seen.length + 1, FACE.length);
    for (Method method : seen) {
      Checks.due(method.getName() + " is public alone", method.getModifiers(), java.lang.reflect.Modifier.PUBLIC);
    }
    for (var field : FirstdanceAgency.class.getDeclaredFields()) {
      Checks.due(field.getName() + " is private", java.lang.reflect.Modifier.isPrivate(field.getModifiers()), true);
    }
    Checks.due("constructors", FirstdanceAgency.class.getDeclaredConstructors().length, 1);
    int ofClass = FirstdanceAgency.class.getModifiers();
    Checks.due("public and final", ofClass, java.lang.reflect.Modifier.PUBLIC | java.lang.reflect.Modifier.FINAL);
  }

  private static void source(Path path) throws Exception {
    JavaCompiler compiler = ToolProvider.getSystemJavaCompiler();
    try (StandardJavaFileManager files = compiler.getStandardFileManager(null, null, null)) {
      JavacTask task = (JavacTask) compiler.getTask(null, files, null, null, null, files.getJavaFileObjects(path));
      for (CompilationUnitTree unit : task.parse()) {
        Checks.due("no package", unit.getPackageName() == null, true);
        Checks.due("no imports", unit.getImports().size(), 0);
        Rules rules = new Rules(unit, Trees.instance(task).getSourcePositions());
        rules.scan(unit, null);
        Checks.due("the face as the document writes it", rules.face, new TreeSet<>(List.of(FACE)));
        Checks.due("at most twelve classes", rules.classes <= 12, true);
        for (String method : rules.calls.keySet()) {
          int depth = rules.depthOf(method, 0);
          Checks.due(method + " has calls at most eight deep", depth <= 8, true);
        }
        rules.otherNames.retainAll(rules.publicNames);
        Checks.due("other methods with a public name", rules.otherNames, Set.of());
        Checks.due("forbidden", rules.forbidden, List.of());
      }
    }
  }

  private static final class Rules extends TreeScanner<Void, Void> {
    private static final Set<Tree.Kind> FORBIDDEN_KINDS = Set.of(Tree.Kind.LAMBDA_EXPRESSION,
        Tree.Kind.MEMBER_REFERENCE, Tree.Kind.TRY, Tree.Kind.SYNCHRONIZED, Tree.Kind.ASSERT, Tree.Kind.TYPE_CAST);
    private static final Set<String> EXCEPTIONS =
        Set.of("IllegalStateException", "IllegalArgumentException", "IndexOutOfBoundsException");

    private final CompilationUnitTree unit;
    private final SourcePositions positions;
    private final Set<String> publicNames = new HashSet<>();
    private final Set<String> otherNames = new HashSet<>();
    private static final Set<String> TYPES = Set.of("int", "long", "boolean", "String", "StringBuilder", "int[]",
        "int[][]", "boolean[]", "Player", "Song", "Band", "Wedding", "Roads", "Fillings", "BestSet", "Player[]",
        "Song[]", "Band[]", "Wedding[]");

    private final List<String> forbidden = new ArrayList<>();
    private final Set<String> face = new TreeSet<>();
    private final Map<String, Set<String>> calls = new TreeMap<>();
    private String className = "";
    private String inMethod = "";
    private int loops = 0;
    private int classes = 0;

    Rules(CompilationUnitTree unit, SourcePositions positions) {
      this.unit = unit;
      this.positions = positions;
    }

    private long line(long position) {
      return unit.getLineMap().getLineNumber(position);
    }

    private void forbid(String what, Tree tree) {
      forbidden.add(what + " in line " + line(positions.getStartPosition(unit, tree)));
    }

    @Override public Void scan(Tree tree, Void nothing) {
      if (tree != null && FORBIDDEN_KINDS.contains(tree.getKind())) forbid(tree.getKind().toString(), tree);
      return super.scan(tree, nothing);
    }

    /** How many calls stand open at most from that method on: more than there are methods, if it calls itself. */
    private int depthOf(String method, int open) {
      int deepest = 0;
      for (String called : calls.getOrDefault(method, Set.of())) {
        if (open <= calls.size() && calls.containsKey(called)) {
          deepest = Math.max(deepest, depthOf(called, open + 1));
        }
      }
      return 1 + deepest;
    }

    @Override public Void visitClass(ClassTree tree, Void nothing) {
      classes++;
      Set<Modifier> ofClass = tree.getModifiers().getFlags();
      boolean isInside = classes > 1;
      if (isInside && !ofClass.contains(Modifier.STATIC)) forbid("class inside that is not static", tree);
      boolean isOpen = ofClass.contains(Modifier.PUBLIC) || ofClass.contains(Modifier.PROTECTED);
      if (isInside && isOpen) forbid("class inside that is public or protected", tree);
      String outer = className;
      className = tree.getSimpleName().toString();
      int fields = 0;
      for (Tree member : tree.getMembers()) {
        if (member instanceof VariableTree field) {
          Set<Modifier> of = field.getModifiers().getFlags();
          if (!of.contains(Modifier.STATIC)) fields++;
          else if (!of.contains(Modifier.FINAL)) forbid("static field that is not final", field);
        }
      }
      if (fields > 20) forbid(fields + " fields", tree);
      super.visitClass(tree, nothing);
      className = outer;
      return null;
    }

    /** What is made by calls, not ahead of them, is counted: a text alone, and none in a loop. */
    private boolean isAheadOfCalls() {
      return inMethod.isEmpty() || inMethod.equals("<init>");
    }

    @Override public Void visitNewClass(NewClassTree tree, Void nothing) {
      String made = tree.getIdentifier().toString();
      boolean isText = made.equals("StringBuilder") && loops == 0;
      if (!isAheadOfCalls() && !isText && !EXCEPTIONS.contains(made)) forbid("new " + made, tree);
      if (tree.getClassBody() != null) forbid("anonymous class", tree);
      return super.visitNewClass(tree, nothing);
    }

    @Override public Void visitNewArray(NewArrayTree tree, Void nothing) {
      if (!isAheadOfCalls()) forbid("new array", tree);
      return super.visitNewArray(tree, nothing);
    }

    @Override public Void visitMethodInvocation(MethodInvocationTree tree, Void nothing) {
      String called = tree.getMethodSelect().toString();
      Set<String> known = calls.computeIfAbsent(inMethod, k -> new TreeSet<>());
      known.add(called.substring(called.lastIndexOf('.') + 1));
      return super.visitMethodInvocation(tree, nothing);
    }

    @Override public Void visitVariable(VariableTree tree, Void nothing) {
      if (!TYPES.contains(tree.getType().toString())) forbid("type " + tree.getType(), tree);
      return super.visitVariable(tree, nothing);
    }

    /** A counter against a bound has to stand in the condition of each loop. */
    private void checkLoop(Tree loop, Tree condition) {
      boolean hasBound = condition != null && condition.toString().matches("(?s).*(<|<=|>|>=) .*");
      if (!hasBound) forbid("loop without a bound", loop);
    }

    @Override public Void visitForLoop(ForLoopTree tree, Void nothing) {
      checkLoop(tree, tree.getCondition());
      loops++;
      super.visitForLoop(tree, nothing);
      loops--;
      return null;
    }

    @Override public Void visitWhileLoop(WhileLoopTree tree, Void nothing) {
      checkLoop(tree, tree.getCondition());
      loops++;
      super.visitWhileLoop(tree, nothing);
      loops--;
      return null;
    }

    @Override public Void visitDoWhileLoop(DoWhileLoopTree tree, Void nothing) {
      checkLoop(tree, tree.getCondition());
      loops++;
      super.visitDoWhileLoop(tree, nothing);
      loops--;
      return null;
    }

    private String faceOf(MethodTree tree) {
      boolean isConstructor = tree.getReturnType() == null;
      StringBuilder text = new StringBuilder("public ");
      text.append(isConstructor ? className : tree.getReturnType() + " " + tree.getName());
      text.append(tree.getParameters().stream().map(p -> p.getType() + " " + p.getName())
          .collect(Collectors.joining(", ", "(", ")")));
      if (!tree.getThrows().isEmpty()) {
        text.append(tree.getThrows().stream().map(Object::toString).collect(Collectors.joining(", ", " throws ", "")));
      }
      return text.append(";").toString();
    }

    @Override public Void visitMethod(MethodTree tree, Void nothing) {
      boolean isPublic = tree.getModifiers().getFlags().contains(Modifier.PUBLIC);
      String name = tree.getName().toString();
      if (isPublic) face.add(faceOf(tree));
      if (!name.equals("<init>")) (isPublic ? publicNames : otherNames).add(name);
      if (!name.equals("<init>") && !isPublic && calls.containsKey(name)) forbid(name + " again", tree);
      if (!name.equals("<init>")) calls.put(name, new TreeSet<>());
      if (Set.of("equals", "hashCode", "toString").contains(name)) forbid(name, tree);
      if (tree.getParameters().size() > 7) forbid("more than seven parameters", tree);
      long length = line(positions.getEndPosition(unit, tree)) - line(positions.getStartPosition(unit, tree)) + 1;
      if (length > 60) forbid(length + " lines", tree);
      inMethod = name;
      super.visitMethod(tree, nothing);
      inMethod = "";
      return null;
    }

    @Override public Void visitThrow(ThrowTree tree, Void nothing) {
      boolean isPlain = tree.getExpression() instanceof NewClassTree made
          && EXCEPTIONS.contains(made.getIdentifier().toString())
          && made.getArguments().stream().allMatch(a -> a.getKind() == Tree.Kind.STRING_LITERAL);
      if (!isPlain) forbid("throw", tree);
      if (inMethod.equals("<init>")) forbid("throw in a constructor", tree);
      return super.visitThrow(tree, nothing);
    }

    @Override public Void visitBinary(BinaryTree tree, Void nothing) {
      boolean isText = tree.getLeftOperand().getKind() == Tree.Kind.STRING_LITERAL
          || tree.getRightOperand().getKind() == Tree.Kind.STRING_LITERAL;
      if (isText) forbid("text joined by " + tree.getKind(), tree);
      return super.visitBinary(tree, nothing);
    }

    @Override public Void visitLiteral(LiteralTree tree, Void nothing) {
      boolean isPlain = !(tree.getValue() instanceof String text) || text.chars().allMatch(c -> c >= 1 && c <= 127);
      if (!isPlain) forbid("sign in a text", tree);
      return super.visitLiteral(tree, nothing);
    }

    /** Only the library that the program uses by now, which LANGUAGE.md lists: a new one is to be looked up there. */
    @Override public Void visitIdentifier(IdentifierTree tree, Void nothing) {
      String name = tree.getName().toString();
      boolean isClass = Character.isUpperCase(name.charAt(0)) && !name.equals(name.toUpperCase());
      Set<String> known = Set.of("Integer", "Math", "String", "StringBuilder", "Player", "Song", "Band", "Wedding",
          "Roads", "Fillings", "BestSet", "IllegalStateException", "IllegalArgumentException",
          "IndexOutOfBoundsException");
      if (isClass && !known.contains(name)) forbid("class " + name, tree);
      return super.visitIdentifier(tree, nothing);
    }

    @Override public Void visitMemberSelect(MemberSelectTree tree, Void nothing) {
      String text = tree.toString();
      boolean isOfLibrary = text.startsWith("Math.") || text.startsWith("Integer.");
      if (isOfLibrary && !Set.of("Math.min", "Math.max", "Math.abs", "Integer.bitCount").contains(text)) {
        forbid(text, tree);
      }
      return super.visitMemberSelect(tree, nothing);
    }
  }
}
