import java.io.IOException;
import java.lang.reflect.Constructor;
import java.lang.reflect.Field;
import java.lang.reflect.Method;
import java.lang.reflect.Modifier;
import java.nio.file.Files;
import java.nio.file.Path;
import java.util.ArrayList;
import java.util.List;
import java.util.Set;
import java.util.TreeSet;
import java.util.regex.Matcher;
import java.util.regex.Pattern;

/** What of ../shared/LANGUAGE.md and of the document's face can be read from the class and its text. */
public final class LanguageTest {
  private static final String SOURCE = "src/main/java/TitheHeap.java";
  private static final String DOCUMENT = "../shared/DOC.md";
  private static int wrong = 0;

  private static void must(boolean holds, String rule) {
    if (!holds) {
      wrong++;
      System.out.println(rule);
    }
  }

  public static void main(String[] args) throws IOException {
    face();
    classes();
    words(stripped(Files.readString(Path.of(SOURCE))));
    lengths(Files.readAllLines(Path.of(SOURCE)));
    System.out.println(wrong == 0 ? "the rules are kept" : wrong + " rules are broken");
    if (wrong != 0) {
      System.exit(1);
    }
  }

  private static void face() throws IOException {
    Set<String> wanted = new TreeSet<>();
    String text = Files.readString(Path.of(DOCUMENT));
    String face = text.substring(text.indexOf("```java"), text.indexOf("## Terms"));
    Matcher m = Pattern.compile("public (int|long) (\\w+)\\(([^)]*)\\);").matcher(face);
    while (m.find()) {
      wanted.add(m.group(1) + " " + m.group(2) + "(" + m.group(3).replaceAll("(int|long) \\w+", "$1").replace(" ", "") + ")");
    }
    Set<String> found = new TreeSet<>();
    Set<String> names = new TreeSet<>();
    for (Method method : TitheHeap.class.getDeclaredMethods()) {
      if (!Modifier.isPrivate(method.getModifiers()) && !method.isSynthetic()) {
        List<String> types = new ArrayList<>();
        for (Class<?> type : method.getParameterTypes()) {
          types.add(type.getName());
        }
        found.add(method.getReturnType() + " " + method.getName() + "(" + String.join(",", types) + ")");
        names.add(method.getName());
      }
    }
    must(wanted.size() == 45 && wanted.equals(found), "rule 1: the face is " + found + ", not " + wanted);
    for (Field field : TitheHeap.class.getDeclaredFields()) {
      must(Modifier.isPrivate(field.getModifiers()) || field.getName().equals("NONE"),
          "rule 1: the field " + field.getName());
    }
    must(TitheHeap.class.getDeclaredConstructors().length == 1, "rule 1: constructors");
    must(Modifier.isFinal(TitheHeap.class.getModifiers()), "rule 1: the class is not final");
    List<Class<?>> all = new ArrayList<>(List.of(TitheHeap.class.getDeclaredClasses()));
    all.add(TitheHeap.class);
    for (Class<?> type : all) {
      for (Method method : type.getDeclaredMethods()) {
        must(type == TitheHeap.class && !Modifier.isPrivate(method.getModifiers())
            || !names.contains(method.getName()), "rule 1: the name of " + method);
      }
    }
  }

  private static void classes() {
    List<Class<?>> all = new ArrayList<>(List.of(TitheHeap.class.getDeclaredClasses()));
    all.add(TitheHeap.class);
    must(all.size() <= 12, "rule 11: " + all.size() + " classes");
    for (Class<?> type : all) {
      must(type == TitheHeap.class || Modifier.isStatic(type.getModifiers()), "rule 2: " + type);
      int fields = 0;
      for (Field field : type.getDeclaredFields()) {
        boolean isStatic = Modifier.isStatic(field.getModifiers());
        must(!isStatic || Modifier.isFinal(field.getModifiers()), "rule 5: " + field);
        fields += isStatic ? 0 : 1;
      }
      must(fields <= 20, "rule 11: fields of " + type);
      for (Method method : type.getDeclaredMethods()) {
        must(method.getParameterCount() <= 7, "rule 11: parameters of " + method);
      }
      for (Constructor<?> constructor : type.getDeclaredConstructors()) {
        must(constructor.getParameterCount() <= 7, "rule 11: parameters of " + constructor);
      }
    }
  }

  /** The text without comments and without what stands in quotes. */
  private static String stripped(String source) {
    return source.replaceAll("(?s)/\\*.*?\\*/", " ").replaceAll("//[^\n]*", " ")
        .replaceAll("\"[^\"\n]*\"", "\"\"").replaceAll("'[^'\n]+'", "' '");
  }

  private static void words(String code) {
    for (String word : List.of("throw", "try", "catch", "throws", "synchronized", "assert", "package",
        "protected", "finally", "float", "double", "Object", "HashMap", "Random", "Thread")) {
      must(!Pattern.compile("\\b" + word + "\\b").matcher(code).find(), "a word outside the language: " + word);
    }
    must(!code.contains("->") && !code.contains("::"), "rule 2: a lambda or a method reference");
    must(!code.contains("Exact("), "rule 4: an Exact function");
    must(!code.contains("{{") && !code.contains("@"), "something outside the language");
    Matcher imports = Pattern.compile("import ([^;]+);").matcher(code);
    while (imports.find()) {
      must(imports.group(1).equals("java.util.Arrays"), "rule 4: import " + imports.group(1));
    }
    Matcher library = Pattern.compile("\\b(System|Arrays|Math|Integer|Long)\\.(\\w+)").matcher(code);
    Set<String> allowed = Set.of("System.arraycopy", "Arrays.fill", "Arrays.copyOf", "Math.max", "Math.min",
        "Integer.compare", "Long.compare");
    while (library.find()) {
      must(allowed.contains(library.group()), "rule 4: " + library.group());
    }
    must(!Pattern.compile("while \\(true\\)|for \\(;;\\)").matcher(code).find(), "rule 9: a loop without an end");
  }

  private static void lengths(List<String> lines) {
    Pattern head = Pattern.compile("^( {4}| {8})(public |private |static |final )*[\\w\\[\\]]+ ?\\w*\\(.*\\{$");
    for (int i = 0; i < lines.size(); i++) {
      if (head.matcher(lines.get(i)).matches()) {
        String end = lines.get(i).replaceAll("\\S.*", "") + "}";
        int j = i;
        while (j < lines.size() && !lines.get(j).equals(end)) {
          j++;
        }
        must(j - i < 60, "rule 11: " + (j - i + 1) + " lines: " + lines.get(i).trim());
      }
      must(lines.get(i).length() <= 110, "a long line: " + (i + 1));
      for (char c : lines.get(i).toCharArray()) {
        must(c >= 32 && c < 127, "a sign outside 32 to 126 in line " + (i + 1));
      }
    }
  }
}
