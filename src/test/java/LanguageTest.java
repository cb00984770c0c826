import com.sun.source.tree.BinaryTree;
import com.sun.source.tree.ClassTree;
import com.sun.source.tree.CompilationUnitTree;
import com.sun.source.tree.IdentifierTree;
import com.sun.source.tree.LiteralTree;
import com.sun.source.tree.MemberSelectTree;
import com.sun.source.tree.MethodTree;
import com.sun.source.tree.NewClassTree;
import com.sun.source.tree.ThrowTree;
import com.sun.source.tree.Tree;
import com.sun.source.tree.VariableTree;
import com.sun.source.util.JavacTask;
import com.sun.source.util.SourcePositions;
import com.sun.source.util.TreeScanner;
import com.sun.source.util.Trees;
import java.lang.reflect.Method;
import java.nio.file.Path;
import java.util.ArrayList;
import java.util.HashSet;
import java.util.List;
import java.util.Set;
import java.util.TreeSet;
import javax.lang.model.element.Modifier;
import javax.tools.JavaCompiler;
import javax.tools.StandardJavaFileManager;
import javax.tools.ToolProvider;

/** What of LANGUAGE.md a program can see: the face, forbidden forms, lengths and counts. */
public final class LanguageTest {
  private static final String[] FACE = {
    "boolean feud(int,int,boolean) IndexOutOfBoundsException IllegalArgumentException",
    "boolean free(int,int) IndexOutOfBoundsException",
    "boolean isSound()",
    "int ask(int,int,int,int,int,int) IndexOutOfBoundsException IllegalArgumentException IllegalStateException",
    "int band(int) IllegalArgumentException IllegalStateException",
    "int cancel(int) IndexOutOfBoundsException IllegalStateException",
    "int desk(int) IllegalArgumentException",
    "int drive(int,int) IndexOutOfBoundsException",
    "int filling(int,int) IndexOutOfBoundsException IllegalArgumentException",
    "int fix(int) IndexOutOfBoundsException IllegalStateException",
    "int ill(int,int) IndexOutOfBoundsException IllegalArgumentException",
    "int key(int) IndexOutOfBoundsException",
    "int late(int,int) IndexOutOfBoundsException IllegalArgumentException IllegalStateException",
    "int learn(int,int) IndexOutOfBoundsException IllegalArgumentException",
    "int ofBand(int,int) IndexOutOfBoundsException IllegalArgumentException",
    "int ofPlayer(int,int) IndexOutOfBoundsException IllegalArgumentException",
    "int ofSong(int,int) IndexOutOfBoundsException IllegalArgumentException",
    "int ofWedding(int,int) IndexOutOfBoundsException IllegalArgumentException",
    "int pass(int) IllegalArgumentException IllegalStateException",
    "int plan(int,boolean) IllegalArgumentException",
    "int player(int,int,int,int) IndexOutOfBoundsException IllegalArgumentException IllegalStateException",
    "int road(int,int,int) IndexOutOfBoundsException IllegalArgumentException",
    "int set(int,boolean) IllegalArgumentException",
    "int song(int,int,int,int) IndexOutOfBoundsException IllegalArgumentException",
    "int wouldCancel(int) IndexOutOfBoundsException IllegalStateException",
    "int wouldLose(int,int) IndexOutOfBoundsException IllegalArgumentException",
    "java.lang.String songs(int) IndexOutOfBoundsException",
    "java.lang.String tell(int) IndexOutOfBoundsException",
    "long digest()",
  };

  public static void main(String[] args) throws Exception {
    face();
    source(Path.of(System.getProperty("agency.source", "src/main/java/FirstdanceAgency.java")));
    Checks.end("LanguageTest");
  }

  private static void face() {
    TreeSet<String> got = new TreeSet<>();
    for (Method method : FirstdanceAgency.class.getDeclaredMethods()) {
      if (java.lang.reflect.Modifier.isPrivate(method.getModifiers())) continue;
      List<String> parameters = new ArrayList<>();
      for (Class<?> type : method.getParameterTypes()) parameters.add(type.getName());
      StringBuilder text = new StringBuilder();
      text.append(method.getReturnType().getName()).append(' ').append(method.getName());
      text.append('(').append(String.join(",", parameters)).append(')');
      for (Class<?> type : method.getExceptionTypes()) text.append(' ').append(type.getSimpleName());
      got.add(text.toString());
      Checks.due(method.getName() + " is public alone", method.getModifiers(), java.lang.reflect.Modifier.PUBLIC);
    }
    Checks.due("the face", got, new TreeSet<>(List.of(FACE)));
    for (var field : FirstdanceAgency.class.getDeclaredFields()) {
      Checks.due(field.getName() + " is private", java.lang.reflect.Modifier.isPrivate(field.getModifiers()), true);
    }
    Checks.due("constructors", FirstdanceAgency.class.getConstructors().length, 1);
    int ofClass = FirstdanceAgency.class.getModifiers();
    Checks.due("public and final", ofClass, java.lang.reflect.Modifier.PUBLIC | java.lang.reflect.Modifier.FINAL);
  }

  private static void source(Path path) throws Exception {
    JavaCompiler compiler = ToolProvider.getSystemJavaCompiler();
    try (StandardJavaFileManager files = compiler.getStandardFileManager(null, null, null)) {
      JavacTask task = (JavacTask) compiler.getTask(null, files, null, null, null, files.getJavaFileObjects(path));
      for (CompilationUnitTree unit : task.parse()) {
        Checks.due("no package", unit.getPackageName() == null, true);
        Checks.due("no imports", unit.getImports().size(), 0);
        Rules rules = new Rules(unit, Trees.instance(task).getSourcePositions());
        rules.scan(unit, null);
        Checks.due("at most twelve classes", rules.classes <= 12, true);
        rules.otherNames.retainAll(rules.publicNames);
        Checks.due("other methods with a public name", rules.otherNames, Set.of());
        Checks.due("forbidden", rules.forbidden, List.of());
      }
    }
  }

  private static final class Rules extends TreeScanner<Void, Void> {
    private static final Set<Tree.Kind> FORBIDDEN_KINDS = Set.of(Tree.Kind.LAMBDA_EXPRESSION,
        Tree.Kind.MEMBER_REFERENCE, Tree.Kind.TRY, Tree.Kind.SYNCHRONIZED, Tree.Kind.ASSERT, Tree.Kind.TYPE_CAST);
    private static final Set<String> EXCEPTIONS =
        Set.of("IllegalStateException", "IllegalArgumentException", "IndexOutOfBoundsException");

    private final CompilationUnitTree unit;
    private final SourcePositions positions;
    private final Set<String> publicNames = new HashSet<>();
    private final Set<String> otherNames = new HashSet<>();
    private final List<String> forbidden = new ArrayList<>();
    private int classes = 0;

    Rules(CompilationUnitTree unit, SourcePositions positions) {
      this.unit = unit;
      this.positions = positions;
    }

    private long line(long position) {
      return unit.getLineMap().getLineNumber(position);
    }

    private void forbid(String what, Tree tree) {
      forbidden.add(what + " in line " + line(positions.getStartPosition(unit, tree)));
    }

    @Override public Void scan(Tree tree, Void nothing) {
      if (tree != null && FORBIDDEN_KINDS.contains(tree.getKind())) forbid(tree.getKind().toString(), tree);
      return super.scan(tree, nothing);
    }

    @Override public Void visitClass(ClassTree tree, Void nothing) {
      classes++;
      int fields = 0;
      for (Tree member : tree.getMembers()) {
        if (member instanceof VariableTree field) {
          Set<Modifier> of = field.getModifiers().getFlags();
          if (!of.contains(Modifier.STATIC)) fields++;
          else if (!of.contains(Modifier.FINAL)) forbid("static field that is not final", field);
        }
      }
      if (fields > 20) forbid(fields + " fields", tree);
      return super.visitClass(tree, nothing);
    }

    @Override public Void visitMethod(MethodTree tree, Void nothing) {
      boolean isPublic = tree.getModifiers().getFlags().contains(Modifier.PUBLIC);
      String name = tree.getName().toString();
      if (!name.equals("<init>")) (isPublic ? publicNames : otherNames).add(name);
      if (Set.of("equals", "hashCode", "toString").contains(name)) forbid(name, tree);
      if (tree.getParameters().size() > 7) forbid("more than seven parameters", tree);
      long length = line(positions.getEndPosition(unit, tree)) - line(positions.getStartPosition(unit, tree)) + 1;
      if (length > 60) forbid(length + " lines", tree);
      return super.visitMethod(tree, nothing);
    }

    @Override public Void visitThrow(ThrowTree tree, Void nothing) {
      boolean isPlain = tree.getExpression() instanceof NewClassTree made
          && EXCEPTIONS.contains(made.getIdentifier().toString())
          && made.getArguments().stream().allMatch(a -> a.getKind() == Tree.Kind.STRING_LITERAL);
      if (!isPlain) forbid("throw", tree);
      return super.visitThrow(tree, nothing);
    }

    @Override public Void visitBinary(BinaryTree tree, Void nothing) {
      boolean isText = tree.getLeftOperand().getKind() == Tree.Kind.STRING_LITERAL
          || tree.getRightOperand().getKind() == Tree.Kind.STRING_LITERAL;
      if (isText) forbid("text joined by " + tree.getKind(), tree);
      return super.visitBinary(tree, nothing);
    }

    @Override public Void visitLiteral(LiteralTree tree, Void nothing) {
      boolean isPlain = !(tree.getValue() instanceof String text) || text.chars().allMatch(c -> c >= 1 && c <= 127);
      if (!isPlain) forbid("sign in a text", tree);
      return super.visitLiteral(tree, nothing);
    }

    /** Only the library that the program uses by now, which LANGUAGE.md lists: a new one is to be looked up there. */
    @Override public Void visitIdentifier(IdentifierTree tree, Void nothing) {
      String name = tree.getName().toString();
      boolean isClass = Character.isUpperCase(name.charAt(0)) && !name.equals(name.toUpperCase());
      Set<String> known = Set.of("Integer", "Math", "String", "StringBuilder", "Player", "Song", "Band", "Wedding",
          "Roads", "Fillings", "BestSet", "IllegalStateException", "IllegalArgumentException",
          "IndexOutOfBoundsException");
      if (isClass && !known.contains(name)) forbid("class " + name, tree);
      return super.visitIdentifier(tree, nothing);
    }

    @Override public Void visitMemberSelect(MemberSelectTree tree, Void nothing) {
      String text = tree.toString();
      boolean isOfLibrary = text.startsWith("Math.") || text.startsWith("Integer.");
      if (isOfLibrary && !Set.of("Math.min", "Math.max", "Math.abs", "Integer.bitCount").contains(text)) {
        forbid(text, tree);
      }
      return super.visitMemberSelect(tree, nothing);
    }
  }
}
