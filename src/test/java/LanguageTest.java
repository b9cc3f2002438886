import java.io.IOException;
import java.nio.file.Files;
import java.nio.file.Path;
import java.util.regex.Matcher;
import java.util.regex.Pattern;

/** The rules of LANGUAGE.md that a look at the letters of the program can tell. */
public final class LanguageTest {
  private static final String[] NEVER = {
    "\\bthrow\\b", "\\btry\\b", "\\bcatch\\b", "\\bsynchronized\\b", "\\bassert\\b", "\\bimport\\b", "\\bpackage\\b",
    "->", "::", "\\bnative\\b", "\\bvolatile\\b", "\\bprotected\\b", "\\bwhile \\(true\\)", "for \\(;;\\)", "Exact\\(",
    "\\bdouble\\b", "\\bfloat\\b", "\\bSystem\\.(?!arraycopy)", "\\bThread\\b", "\\bhashCode\\b", "\\btoString\\b"};

  public static void main(String[] args) throws IOException {
    String source = Files.readString(Path.of("src/main/java/HasteRoads.java"));
    for (int i = 0; i < source.length(); i++) Check.holds("an ASCII sign at " + i, source.charAt(i) < 128);
    String code = source.replaceAll("(?s)/\\*.*?\\*/", " ").replaceAll("//[^\n]*", " ");
    for (String never : NEVER) {
      Check.holds("no " + never, !Pattern.compile(never).matcher(code).find());
    }
    nestedClassesAreStatic(code);
    parametersAreFew(code);
    Check.end("LanguageTest");
  }

  private static void nestedClassesAreStatic(String code) {
    Matcher m = Pattern.compile("(?m)^( *)([a-z ]*)class (\\w+)").matcher(code);
    int classes = 0;
    while (m.find()) {
      classes++;
      boolean outer = m.group(1).isEmpty();
      Check.holds(m.group(3) + " is static", outer || m.group(2).contains("private static "));
    }
    Check.holds("twelve classes at most", classes <= 12);
  }

  private static void parametersAreFew(String code) {
    Matcher m = Pattern.compile("(?m)^ +[\\w\\[\\] ]+ (\\w+)\\(([^()]*)\\) \\{").matcher(code);
    while (m.find()) Check.holds(m.group(1) + " has seven parameters at most", m.group(2).split(",").length <= 7);
  }
}
