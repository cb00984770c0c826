import java.lang.reflect.Method;
import java.lang.reflect.Modifier;
import java.net.URL;
import java.net.URLClassLoader;
import java.nio.file.Files;
import java.nio.file.Path;
import java.util.List;
import java.util.regex.Matcher;
import java.util.regex.Pattern;
import javax.tools.ToolProvider;

/** The code that README.md shows is compiled as one program and run: each answer is as it stands behind its call. */
public final class ReadmeTest {
  /** A call, and behind it the answer, up to a colon and words. */
  private static final Pattern SHOWN = Pattern.compile("(.*;) *// (\"[^\"]*\"|throws \\w+|-?\\d+|true|false)(: .*)?");
  private static final Pattern NAMED = Pattern.compile("\\w+ (\\w+) = .*");

  public static void main(String[] args) throws Exception {
    String readme = Files.readString(Path.of(System.getProperty("agency.readme", "README.md")));
    StringBuilder program = new StringBuilder();
    int answers = 0;
    boolean isCode = false;
    for (String line : readme.split("\n")) {
      if (line.startsWith("```")) {
        isCode = line.equals("```java");
      } else if (isCode) {
        answers += SHOWN.matcher(line).matches() ? 1 : 0;
        program.append(checked(line)).append('\n');
      }
    }
    List<String[]> seen = run(program.toString());
    Checks.due("answers that were seen", seen.size(), answers);
    for (String[] one : seen) {
      Checks.due("README.md: " + one[0], one[1], one[2]);
    }
    namesAll(readme);
    Checks.end("ReadmeTest");
  }

  private static void namesAll(String readme) {
    for (Method method : FirstdanceAgency.class.getDeclaredMethods()) {
      if (Modifier.isPublic(method.getModifiers())) {
        Checks.due("names " + method.getName(), readme.contains("`" + method.getName() + "("), true);
      }
    }
  }

  /** The line as a part of the program, which tells the call, what was answered, and what is due. */
  private static String checked(String line) {
    Matcher shown = SHOWN.matcher(line);
    if (!shown.matches()) {
      boolean isMute = line.contains("//") && !line.startsWith("//");
      Checks.due("an answer can be read: " + line, isMute, false);
      return line;
    }
    String call = shown.group(1);
    String name = "\"" + escaped(call) + "\"";
    String want = "\"" + escaped(shown.group(2)) + "\"";
    if (shown.group(2).startsWith("throws ")) {
      return "try { " + call + " tell(" + name + ", \"throws nothing\", " + want + "); } catch (RuntimeException e) {"
          + " tell(" + name + ", \"throws \" + e.getClass().getSimpleName(), " + want + "); }";
    }
    Matcher named = NAMED.matcher(call);
    return named.matches() ? call + " tell(" + name + ", " + named.group(1) + ", " + want + ");"
        : "tell(" + name + ", " + call.substring(0, call.length() - 1) + ", " + want + ");";
  }

  private static String escaped(String text) {
    return text.replace("\\", "\\\\").replace("\"", "\\\"");
  }

  @SuppressWarnings("unchecked")
  private static List<String[]> run(String program) throws Exception {
    String source = "public final class Readme {\n"
        + "public static final java.util.List<String[]> SEEN = new java.util.ArrayList<>();\n"
        + "static void tell(String call, Object got, String want) {\n"
        + "SEEN.add(new String[] {call, got instanceof String && !want.startsWith(\"throws\")"
        + " ? \"\\\"\" + got + \"\\\"\" : String.valueOf(got), want});\n}\n"
        + "public static void run() {\n" + program + "}\n}\n";
    Path place = Files.createTempDirectory("readme");
    Path file = place.resolve("Readme.java");
    for (Path made : new Path[] {place, file, place.resolve("Readme.class")}) {
      made.toFile().deleteOnExit();
    }
    Files.writeString(file, source);
    int status = ToolProvider.getSystemJavaCompiler().run(null, System.out, System.out,
        "-encoding", "UTF-8", "-cp", System.getProperty("java.class.path"), "-d", place.toString(), file.toString());
    Checks.due("README.md compiles", status, 0);
    if (status != 0) {
      return List.of();
    }
    try (URLClassLoader loader = new URLClassLoader(new URL[] {place.toUri().toURL()})) {
      Class<?> readme = loader.loadClass("Readme");
      readme.getMethod("run").invoke(null);
      return (List<String[]>) readme.getField("SEEN").get(null);
    }
  }
}
