import java.io.ByteArrayOutputStream;
import java.io.PrintStream;
import java.lang.reflect.Field;
import java.lang.reflect.Method;
import java.lang.reflect.Modifier;
import java.net.URL;
import java.net.URLClassLoader;
import java.nio.charset.StandardCharsets;
import java.nio.file.Files;
import java.nio.file.Path;
import java.util.List;
import javax.tools.ToolProvider;

/** What README.md says of the class: its example prints what stands behind it, and every call is told of. */
public final class ReadmeTest {
  private static final Path README = Path.of("README.md");
  private static final Path CI = Path.of(".ci", "run");

  private final Checks checks = new Checks();
  private final String text;

  private ReadmeTest(String text) {
    this.text = text;
  }

  public static void main(String[] args) throws Exception {
    ReadmeTest test = new ReadmeTest(Files.readString(README));
    test.checkExample();
    test.checkFace();
    test.checkTests();
    test.checks.close("ReadmeTest");
  }

  /** The first block of a sort behind a place. */
  private String block(String sort, int from) {
    String opening = "\n```" + sort + "\n";
    int begin = text.indexOf(opening, from);
    int end = begin < 0 ? -1 : text.indexOf("\n```\n", begin + opening.length());
    checks.due("a block of " + sort, end >= 0, true);
    return end < 0 ? "" : text.substring(begin + opening.length(), end + 1);
  }

  private void checkExample() throws Exception {
    String program = block("java", 0);
    List<String> due = block("text", text.indexOf(program)).lines().toList();
    List<String> printed = printed(program).lines().toList();
    checks.due("lines that the example prints", printed.size(), due.size());
    for (int i = 0; i < Math.min(printed.size(), due.size()); i++) {
      String line = "line " + i + " of the example: '" + printed.get(i) + "', in README.md '" + due.get(i) + "', alike";
      checks.due(line, printed.get(i).equals(due.get(i)), true);
    }
  }

  /** Compiles a program whose class is Example, runs it, and tells what it printed. */
  private String printed(String program) throws Exception {
    Path folder = Files.createTempDirectory("readme");
    Path source = folder.resolve("Example.java");
    Path compiled = folder.resolve("Example.class");
    PrintStream screen = System.out;
    ByteArrayOutputStream bytes = new ByteArrayOutputStream();
    try {
      Files.writeString(source, program);
      int failed = ToolProvider.getSystemJavaCompiler().run(null, null, null, "-proc:none", "-cp",
          System.getProperty("java.class.path"), "-d", folder.toString(), source.toString());
      checks.due("the compiler of the example", failed, 0);
      System.setOut(new PrintStream(bytes, true, StandardCharsets.UTF_8));
      try (URLClassLoader loader = new URLClassLoader(new URL[] {folder.toUri().toURL()})) {
        Class<?> example = loader.loadClass("Example");
        example.getMethod("main", String[].class).invoke(null, (Object) new String[0]);
      }
    } finally {
      System.setOut(screen);
      Files.deleteIfExists(compiled);
      Files.deleteIfExists(source);
      Files.deleteIfExists(folder);
    }
    return bytes.toString(StandardCharsets.UTF_8);
  }

  private void checkFace() {
    checks.due("README.md tells of the constructor", text.contains("`new RecordBridge()`"), true);
    for (Method method : RecordBridge.class.getDeclaredMethods()) {
      if (Modifier.isPublic(method.getModifiers())) {
        checks.due("README.md tells of " + method.getName() + " and its parameters", isTold(method), true);
      }
    }
    for (Field field : RecordBridge.class.getDeclaredFields()) {
      if (Modifier.isPublic(field.getModifiers())) {
        String told = "`RecordBridge." + field.getName() + "`";
        checks.due("README.md tells of " + told, text.contains(told), true);
      }
    }
  }

  /** Whether a row of a table begins with a call of the method, of as many parameters as it has. */
  private boolean isTold(Method method) {
    String call = "| `" + method.getName() + "(";
    int begin = text.indexOf(call);
    int end = begin < 0 ? -1 : text.indexOf(")`", begin);
    if (end < 0) {
      return false;
    }
    String parameters = text.substring(begin + call.length(), end);
    int told = parameters.isEmpty() ? 0 : parameters.split(", ").length;
    return told == method.getParameterCount();
  }

  private void checkTests() throws Exception {
    checks.due("README.md tells of .ci/run", text.contains("`.ci/run`"), true);
    checks.due(".ci/run can be run", Files.isExecutable(CI), true);
    for (String word : block("sh", 0).split("\\s+")) {
      if (word.endsWith("Test")) {
        checks.due(word + " stands", Files.exists(Path.of("src", "test", "java", word + ".java")), true);
      } else if (word.startsWith("src/")) {
        checks.due(word + " stands", Files.isDirectory(Path.of(word).getParent()), true);
      }
    }
  }
}
