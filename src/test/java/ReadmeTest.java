import java.io.IOException;
import java.lang.reflect.Method;
import java.lang.reflect.Modifier;
import java.net.URL;
import java.net.URLClassLoader;
import java.nio.file.Files;
import java.nio.file.Path;
import java.util.List;
import java.util.regex.Matcher;
import java.util.regex.Pattern;
import javax.tools.JavaCompiler;
import javax.tools.ToolProvider;

/** README.md: its example is Java that can be compiled, each call answers what is shown behind it, all calls are named. */
public final class ReadmeTest {
  private static final Pattern SHOWN = Pattern.compile("(x\\.\\w+\\([^;]*\\)); *// (-?\\d+|NONE|UNKNOWN|OUTSIDE|NOT|FULL)\\b.*");
  private static final int SHOWN_AT_LEAST = 45;

  public static void main(String[] args) throws Exception {
    List<String> readme = Files.readAllLines(Path.of("README.md"));
    allCallsAreNamed(String.join("\n", readme));
    runExample(readme);
    Check.end("ReadmeTest");
  }

  private static void allCallsAreNamed(String readme) {
    for (Method m : HasteRoads.class.getDeclaredMethods()) {
      if (!Modifier.isPublic(m.getModifiers())) continue;
      Check.holds("README.md names " + m.getName(), readme.contains("`" + m.getName() + "("));
    }
  }

  private static void runExample(List<String> readme) throws Exception {
    StringBuilder source = new StringBuilder("public final class ReadmeExample {\n  public static void run() {\n");
    int shown = 0;
    boolean inside = false;
    for (String line : readme) {
      if (line.startsWith("```")) {
        inside = line.equals("```java");
        continue;
      }
      if (!inside) continue;
      Matcher m = SHOWN.matcher(line);
      boolean shows = m.matches();
      if (shows) shown++;
      Check.holds("an answer is shown: " + line, shows || !line.startsWith("x."));
      source.append(shows ? asked(m.group(1), m.group(2)) : line).append('\n');
    }
    source.append("  }\n}\n");
    Check.holds(shown + " answers are shown", shown >= SHOWN_AT_LEAST);
    compileAndRun(source.toString());
  }

  private static String asked(String call, String answer) {
    String want = Character.isLetter(answer.charAt(0)) ? "HasteRoads." + answer : answer;
    return "ReadmeTest.shown(\"" + call + "\", " + call + ", " + want + ");";
  }

  public static void shown(String call, int got, int want) {
    Check.due("README.md: " + call, got, want);
  }

  private static void compileAndRun(String source) throws Exception {
    Path folder = Files.createTempDirectory("readme");
    Path file = folder.resolve("ReadmeExample.java");
    try {
      Files.writeString(file, source);
      JavaCompiler javac = ToolProvider.getSystemJavaCompiler();
      int refused = javac.run(null, null, null, "-cp", System.getProperty("java.class.path"), "-d", folder.toString(), file.toString());
      Check.holds("the example of README.md compiles", refused == 0);
      if (refused != 0) return;
      try (URLClassLoader loader = new URLClassLoader(new URL[] {folder.toUri().toURL()})) {
        loader.loadClass("ReadmeExample").getMethod("run").invoke(null);
      }
    } finally {
      clear(folder);
    }
  }

  private static void clear(Path folder) throws IOException {
    for (String name : new String[] {"ReadmeExample.java", "ReadmeExample.class"}) Files.deleteIfExists(folder.resolve(name));
    Files.deleteIfExists(folder);
  }
}
