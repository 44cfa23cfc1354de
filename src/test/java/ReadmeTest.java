import java.io.IOException;
import java.lang.reflect.Method;
import java.net.URL;
import java.net.URLClassLoader;
import java.nio.file.Files;
import java.nio.file.Path;
import java.util.ArrayList;
import java.util.List;
import java.util.regex.Matcher;
import java.util.regex.Pattern;
import javax.tools.ToolProvider;

/** The calls on README.md answer what the page says behind them. Run from the project's root. */
public final class ReadmeTest {
  private static final Pattern BLOCK = Pattern.compile("(?s)```java\n(.*?)```");
  private static final Pattern ANSWERED = Pattern.compile("(\\S.*);\\s*// (-?\\d+)\\b.*");
  private static final Path BUILD = Path.of("build", "readme");

  private static final Due due = new Due("ReadmeTest");

  public static void main(String[] args) throws IOException, ReflectiveOperationException {
    Matcher blocks = BLOCK.matcher(Files.readString(Path.of("README.md")));
    int read = 0;
    while (blocks.find()) {
      read++;
      runBlock("Readme" + read, blocks.group(1));
    }
    due.is("blocks of calls", read, 3);
    due.end();
  }

  private static void runBlock(String name, String block) throws IOException, ReflectiveOperationException {
    StringBuilder program = new StringBuilder("public final class " + name + " {\n");
    program.append("public static java.util.List<Long> run() {\njava.util.List<Long> got = new java.util.ArrayList<>();\n");
    List<String> calls = new ArrayList<>();
    List<Long> wants = new ArrayList<>();
    for (String line : block.split("\n")) {
      Matcher answered = ANSWERED.matcher(line);
      if (answered.matches()) {
        calls.add(answered.group(1));
        wants.add(Long.parseLong(answered.group(2)));
        program.append("got.add((long) ").append(answered.group(1)).append(");\n");
      } else {
        program.append(line).append('\n');
      }
    }
    program.append("return got;\n}\n}\n");
    List<?> got = answersOf(name, program.toString());
    due.is("answers in " + name, got.size(), wants.size());
    for (int i = 0; i < Math.min(got.size(), wants.size()); i++) {
      due.is(name + ": " + calls.get(i), (Long) got.get(i), wants.get(i));
    }
  }

  private static List<?> answersOf(String name, String program) throws IOException, ReflectiveOperationException {
    Files.createDirectories(BUILD);
    Path source = BUILD.resolve(name + ".java");
    Files.writeString(source, program);
    int failed = ToolProvider.getSystemJavaCompiler().run(null, null, null, "-cp", System.getProperty("java.class.path"),
        "-d", BUILD.toString(), source.toString());
    due.is("compiling " + name, failed, 0);
    if (failed != 0) {
      return List.of();
    }
    try (URLClassLoader loader = new URLClassLoader(new URL[] {BUILD.toUri().toURL()})) {
      Method run = loader.loadClass(name).getMethod("run");
      return (List<?>) run.invoke(null);
    }
  }
}
