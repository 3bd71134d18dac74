import java.io.IOException;
import java.lang.reflect.Method;
import java.lang.reflect.Modifier;
import java.net.URL;
import java.net.URLClassLoader;
import java.nio.file.Files;
import java.nio.file.Path;
import java.util.ArrayList;
import java.util.Comparator;
import java.util.List;
import java.util.regex.Matcher;
import java.util.regex.Pattern;
import java.util.stream.Stream;
import javax.tools.JavaCompiler;
import javax.tools.ToolProvider;

/** README.md: its code compiles and answers as its comments say; it names every call and every test. */
public final class ReadmeTest {
  private static final Pattern BLOCK = Pattern.compile("```java\n(.*?)```", Pattern.DOTALL);
  private static final Pattern ANSWERED =
      Pattern.compile("(?m)^((?:x\\.|tell\\(x).*\\));\\s*// (-?\\d+)\\b.*$");
  private static final Pattern UNANSWERED = Pattern.compile("(?m)^(?:x\\.|tell\\(x).*$");
  private static int wrong = 0;

  private static void must(boolean holds, String what) {
    if (!holds) {
      wrong++;
      System.out.println(what);
    }
  }

  public static void main(String[] args) throws Exception {
    String page = Files.readString(Path.of("README.md"));
    for (Method method : TitheHeap.class.getDeclaredMethods()) {
      must(!Modifier.isPublic(method.getModifiers()) || page.contains("`" + method.getName() + "`"),
          "README.md doesn't name the call " + method.getName());
    }
    namesEveryTest(page);
    int answers = runCode(page);
    System.out.println("README.md: " + answers + " answers, " + wrong + " things wrong");
    if (wrong != 0) {
      System.exit(1);
    }
  }

  private static void namesEveryTest(String page) throws IOException {
    try (Stream<Path> files = Files.list(Path.of("src/test/java"))) {
      for (Path file : (Iterable<Path>) files::iterator) {
        String name = file.getFileName().toString().replace(".java", "");
        must(page.contains("- `" + name + "`: "), "README.md doesn't name the test " + name);
      }
    }
  }

  /** Compiles the page's blocks into one class (those that begin with 'static' as they are) and runs it. */
  private static int runCode(String page) throws Exception {
    StringBuilder members = new StringBuilder();
    StringBuilder blocks = new StringBuilder();
    int answers = 0;
    Matcher block = BLOCK.matcher(page);
    while (block.find()) {
      if (block.group(1).startsWith("static")) {
        members.append(block.group(1));
        continue;
      }
      Matcher answered = ANSWERED.matcher(block.group(1));
      answers += (int) answered.results().count();
      String code = answered.replaceAll(m -> Matcher.quoteReplacement(
          "due(\"" + m.group(1).replace("\"", "'") + "\", " + m.group(1) + ", " + m.group(2) + "L);"));
      Matcher unanswered = UNANSWERED.matcher(code);
      must(!unanswered.find(), "README.md has a call whose comment tells no answer");
      blocks.append("{\n").append(code).append("}\n");
    }
    must(answers > 0 && members.length() > 0, "README.md has no code that can be run");
    wrong += outcome("public final class Page {\n" + members
        + "static int wrong = 0;\n"
        + "static void due(String call, long got, long want) {\n"
        + "if (got != want) { wrong++; System.out.println(call + \" answered \" + got + \", README.md says \" + want); }\n"
        + "}\n"
        + "public static int run() {\n" + blocks + "return wrong;\n}\n}\n");
    return answers;
  }

  private static int outcome(String source) throws Exception {
    Path folder = Files.createTempDirectory("readme");
    try {
      Path file = Files.writeString(folder.resolve("Page.java"), source);
      JavaCompiler compiler = ToolProvider.getSystemJavaCompiler();
      String classPath = System.getProperty("java.class.path");
      if (compiler == null || compiler.run(null, null, null, "-cp", classPath, "-d", folder.toString(),
          file.toString()) != 0) {
        System.out.println("README.md's code doesn't compile");
        return 1;
      }
      try (URLClassLoader loader = new URLClassLoader(new URL[] {folder.toUri().toURL()})) {
        return (int) loader.loadClass("Page").getMethod("run").invoke(null);
      }
    } finally {
      remove(folder);
    }
  }

  private static void remove(Path folder) throws IOException {
    List<Path> paths = new ArrayList<>();
    try (Stream<Path> walk = Files.walk(folder)) {
      walk.sorted(Comparator.reverseOrder()).forEach(paths::add);
    }
    for (Path path : paths) {
      Files.delete(path);
    }
  }
}
