import java.io.IOException;
import java.lang.reflect.Field;
import java.lang.reflect.Method;
import java.lang.reflect.Modifier;
import java.nio.file.Files;
import java.nio.file.Path;
import java.util.Set;
import java.util.TreeSet;
import java.util.regex.Matcher;
import java.util.regex.Pattern;

/** The rules of LANGUAGE.md that a look at the letters of the program, and at its classes, can tell. */
public final class LanguageTest {
  private static final String[] NEVER = {
    "\\bthrow\\b", "\\btry\\b", "\\bcatch\\b", "\\bsynchronized\\b", "\\bassert\\b", "\\bimport\\b", "\\bpackage\\b",
    "->", "::", "\\bnative\\b", "\\bvolatile\\b", "\\bprotected\\b", "\\bwhile \\(true\\)", "for \\(;;\\)", "Exact\\(",
    "\\bdouble\\b", "\\bfloat\\b", "\\bSystem\\.(?!arraycopy)", "\\bThread\\b", "\\bhashCode\\b", "\\btoString\\b"};

  private static final Set<String> LIBRARY = Set.of("Math.max", "Math.min", "Integer.bitCount", "System.arraycopy");
  private static final Set<Class<?>> STATIC_TYPES = Set.of(int.class, long.class, boolean.class, char.class, String.class,
      int[].class, long[].class, char[].class, byte[].class);
  private static final int FIELDS_OF_A_CLASS = 20;
  private static final int LINES_OF_A_METHOD = 60;

  public static void main(String[] args) throws IOException {
    String source = Files.readString(Path.of("src/main/java/HasteRoads.java"));
    for (int i = 0; i < source.length(); i++) Check.holds("an ASCII sign at " + i, source.charAt(i) < 128);
    String code = source.replaceAll("(?s)/\\*.*?\\*/", " ").replaceAll("//[^\n]*", " ");
    for (String never : NEVER) {
      Check.holds("no " + never, !Pattern.compile(never).matcher(code).find());
    }
    nestedClassesAreStatic(code);
    parametersAreFew(code);
    libraryIsListed(code);
    methodsAreShort(code);
    Set<String> face = new TreeSet<>();
    for (Method m : HasteRoads.class.getDeclaredMethods()) if (Modifier.isPublic(m.getModifiers())) face.add(m.getName());
    fieldsAreFew(HasteRoads.class);
    for (Class<?> inside : HasteRoads.class.getDeclaredClasses()) {
      fieldsAreFew(inside);
      namesAreOwn(inside, face);
    }
    Check.end("LanguageTest");
  }

  private static void nestedClassesAreStatic(String code) {
    Matcher m = Pattern.compile("(?m)^( *)([a-z ]*)class (\\w+)").matcher(code);
    int classes = 0;
    while (m.find()) {
      classes++;
      boolean outer = m.group(1).isEmpty();
      Check.holds(m.group(3) + " is static", outer || m.group(2).contains("private static "));
    }
    Check.holds("twelve classes at most", classes <= 12);
  }

  private static void parametersAreFew(String code) {
    Matcher m = Pattern.compile("(?m)^ +[\\w\\[\\] ]+ (\\w+)\\(([^()]*)\\) \\{").matcher(code);
    while (m.find()) Check.holds(m.group(1) + " has seven parameters at most", m.group(2).split(",").length <= 7);
  }

  /** Rule 4, of the functions that are called by a library class's name. */
  private static void libraryIsListed(String code) {
    Matcher m = Pattern.compile("\\b(?:[A-Z][a-z]+)\\.\\w+").matcher(code);
    while (m.find()) Check.holds(m.group() + " is of the library that is listed", LIBRARY.contains(m.group()));
  }

  /** Rule 11. */
  private static void methodsAreShort(String code) {
    String[] lines = code.split("\n");
    int methods = 0;
    for (int i = 0; i < lines.length; i++) {
      if (!lines[i].matches(" +[\\w\\[\\] ]+\\([^()]*\\) \\{") || lines[i].matches(" *(if|for|while|switch|else)\\b.*")) continue;
      methods++;
      String end = lines[i].replaceAll("\\S.*", "") + "}";
      int last = i;
      while (last < lines.length - 1 && !lines[last].equals(end)) last++;
      Check.holds("some sixty lines at most: " + lines[i].trim(), last - i < LINES_OF_A_METHOD);
    }
    Check.holds("methods are found: " + methods, methods > 80);
  }

  /** Rules 5 and 11. */
  private static void fieldsAreFew(Class<?> c) {
    int own = 0;
    for (Field f : c.getDeclaredFields()) {
      boolean isStatic = Modifier.isStatic(f.getModifiers());
      if (!isStatic) own++;
      Check.holds(c.getName() + "." + f.getName() + " is a constant", !isStatic || Modifier.isFinal(f.getModifiers()) && STATIC_TYPES.contains(f.getType()));
    }
    Check.holds(c.getName() + " has some twenty fields at most", own <= FIELDS_OF_A_CLASS);
  }

  /** Rule 1: nothing inside bears the name of a call. */
  private static void namesAreOwn(Class<?> inside, Set<String> face) {
    for (Method m : inside.getDeclaredMethods()) {
      Check.holds(inside.getName() + "." + m.getName() + " has a name of its own", !face.contains(m.getName()));
    }
  }
}
