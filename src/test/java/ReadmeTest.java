import java.lang.reflect.Method;
import java.lang.reflect.Modifier;
import java.net.URL;
import java.net.URLClassLoader;
import java.nio.file.Files;
import java.nio.file.Path;
import java.util.ArrayList;
import java.util.List;
import java.util.Set;
import java.util.TreeSet;
import java.util.regex.Matcher;
import java.util.regex.Pattern;
import java.util.stream.Stream;
import javax.tools.ToolProvider;

/** What README.md says holds: its lines of Java answer what stands beside them, it names all calls and all tests. */
public final class ReadmeTest {
  private static final Pattern CALL = Pattern.compile("\\s*(\\w+\\.\\w+\\(.*\\));\\s*// (-?\\d+)(:.*)?");

  public static void main(String[] args) throws Exception {
    Path project = Path.of(System.getProperty("project", "."));
    String readme = Files.readString(project.resolve("README.md"));
    Matcher code = Pattern.compile("```java\n(.*?)```", Pattern.DOTALL).matcher(readme);
    Due.is("lines of Java", code.find() ? 1 : 0, 1);
    run(code.group(1));
    calls(readme.replace(code.group(), ""));
    tests(project, readme);
    Due.close("ReadmeTest");
  }

  /** Each line with a number behind it is asked for its answer; the lines as they stand are compiled by javac. */
  private static void run(String lines) throws Exception {
    StringBuilder b = new StringBuilder("public class Example { public static void ask(java.util.List<Long> answers) {\n");
    List<String> names = new ArrayList<>();
    List<Long> due = new ArrayList<>(), got = new ArrayList<>();
    for (String line : lines.split("\n")) {
      Matcher m = CALL.matcher(line);
      if (m.matches()) {
        names.add(m.group(1));
        due.add(Long.parseLong(m.group(2)));
      }
      b.append(m.matches() ? "answers.add((long) " + m.group(1) + ");" : line).append('\n');
    }
    Due.is("too few lines that tell their answer", due.size() < 15 ? 1 : 0, 0);
    ask(b.append("} }\n").toString(), got);
    Due.is("answers of README's lines", got.size(), due.size());
    for (int i = 0; i < Math.min(got.size(), due.size()); i++) Due.is("README's " + names.get(i), got.get(i), due.get(i));
  }

  private static void ask(String example, List<Long> answers) throws Exception {
    Path dir = Files.createTempDirectory("readme");
    Path file = dir.resolve("Example.java");
    Files.writeString(file, example);
    String path = System.getProperty("java.class.path");
    int failed = ToolProvider.getSystemJavaCompiler().run(null, null, null, "-cp", path, "-d", dir.toString(), file.toString());
    Due.is("README's lines compile", failed, 0);
    if (failed == 0) {
      try (URLClassLoader loader = new URLClassLoader(new URL[] {dir.toUri().toURL()}, ReadmeTest.class.getClassLoader())) {
        loader.loadClass("Example").getMethod("ask", List.class).invoke(null, answers);
      }
    }
    try (Stream<Path> all = Files.list(dir)) {
      for (Path one : (Iterable<Path>) all::iterator) Files.delete(one);
    }
    Files.delete(dir);
  }

  /** Beside its example the page names each call of the class, and in its table no other one. */
  private static void calls(String readme) {
    Set<String> due = new TreeSet<>(), named = new TreeSet<>();
    for (Method m : CornerWinds.class.getDeclaredMethods()) if (Modifier.isPublic(m.getModifiers())) due.add(m.getName());
    Matcher row = Pattern.compile("^\\|.*\\|(.*)\\|$", Pattern.MULTILINE).matcher(readme);
    while (row.find()) {
      Matcher name = Pattern.compile("`(\\w+)`").matcher(row.group(1));
      while (name.find()) named.add(name.group(1));
    }
    Due.is("README names " + named + " of " + due, named.equals(due) ? 1 : 0, 1);
  }

  private static void tests(Path project, String readme) throws Exception {
    Set<String> due = new TreeSet<>(), named = new TreeSet<>();
    try (Stream<Path> files = Files.list(project.resolve("src/test/java"))) {
      for (Path file : (Iterable<Path>) files::iterator) {
        String name = file.getFileName().toString();
        if (name.endsWith("Test.java")) due.add(name.substring(0, name.length() - 5));
      }
    }
    Matcher name = Pattern.compile("`(\\w+Test)`").matcher(readme);
    while (name.find()) named.add(name.group(1));
    Due.is("README names " + named + " of " + due, named.equals(due) ? 1 : 0, 1);
  }
}
