import java.lang.reflect.Constructor;
import java.lang.reflect.Field;
import java.lang.reflect.Method;
import java.lang.reflect.Modifier;
import java.util.Set;
import java.util.TreeSet;

/** The public face: just the document's constants, constructor and methods (promise 1's object has no PLACES). */
public final class FaceTest {
  private static final String[] METHODS = {
    "feed(int)", "land()", "fault()", "told(int)", "road(int,int)", "person(int,int)", "takes(int,int,int,int,int)",
    "go(int,int,int)", "await(int,int)", "load(int,int)", "inn(int,boolean)", "clock(int,boolean)", "miles(int,int)",
    "drift(int)", "soonest(int,int)", "step(int,int)", "latest(int)", "inns(int)", "relay(int,int,int)",
    "meet(int,int,int)", "cost(int)", "shorter(int)", "lend(int,int,int)", "guard(int,int)", "round(int,int)",
    "took(int,int,int,int,int)", "spent(int)", "lie()", "write(int)", "tear()", "judge(int,int)", "seed(int)",
    "keep(int)", "goBack(int)"};

  public static void main(String[] args) {
    face();
    newObject();
    Check.end("FaceTest");
  }

  private static void face() {
    Check.holds("public", Modifier.isPublic(HasteRoads.class.getModifiers()));
    Check.holds("final", Modifier.isFinal(HasteRoads.class.getModifiers()));
    Set<String> want = new TreeSet<>(Set.of(METHODS));
    Set<String> got = new TreeSet<>();
    Set<String> hidden = new TreeSet<>();
    for (Method m : HasteRoads.class.getDeclaredMethods()) {
      StringBuilder name = new StringBuilder(m.getName()).append('(');
      for (Class<?> c : m.getParameterTypes()) {
        if (name.charAt(name.length() - 1) != '(') name.append(',');
        name.append(c.getName());
      }
      name.append(')');
      if (Modifier.isPrivate(m.getModifiers())) {
        hidden.add(m.getName());
        continue;
      }
      got.add(name.toString());
      Check.holds(name + " is public and answers an int",
          Modifier.isPublic(m.getModifiers()) && !Modifier.isStatic(m.getModifiers()) && m.getReturnType() == int.class);
    }
    Check.holds("the methods: " + got, got.equals(want));
    for (String name : METHODS) {
      Check.holds("no private " + name, !hidden.contains(name.substring(0, name.indexOf('('))));
    }
    Set<String> constants = new TreeSet<>();
    for (Field f : HasteRoads.class.getDeclaredFields()) {
      if (!Modifier.isPrivate(f.getModifiers())) constants.add(f.getName());
    }
    Check.holds("the constants: " + constants, constants.equals(new TreeSet<>(Set.of("NONE", "UNKNOWN", "OUTSIDE", "NOT", "FULL"))));
    Constructor<?>[] makers = HasteRoads.class.getDeclaredConstructors();
    Check.holds("one constructor", makers.length == 1 && Modifier.isPublic(makers[0].getModifiers())
        && makers[0].getParameterCount() == 0);
    Check.due("NONE", HasteRoads.NONE, -1);
    Check.due("UNKNOWN", HasteRoads.UNKNOWN, -1000000001);
    Check.due("OUTSIDE", HasteRoads.OUTSIDE, -1000000002);
    Check.due("NOT", HasteRoads.NOT, -1000000003);
    Check.due("FULL", HasteRoads.FULL, -1000000004);
  }

  /** Promise 1. */
  private static void newObject() {
    HasteRoads x = new HasteRoads();
    for (int what = 0; what <= 7; what++) Check.due("told(" + what + ")", x.told(what), 0);
    Check.due("fault()", x.fault(), Check.NONE);
    Check.due("seed(7)", x.seed(7), 0);
    Check.due("road(0, 0)", x.road(0, 0), Check.UNKNOWN);
    Check.due("person(0, 0)", x.person(0, 0), Check.UNKNOWN);
    Check.due("inn(0, true)", x.inn(0, true), Check.UNKNOWN);
    Check.due("drift(1)", x.drift(1), Check.NOT);
    Check.due("goBack(0)", x.goBack(0), Check.NOT);
    Check.due("lie()", x.lie(), Check.NONE);
    Check.due("tear()", x.tear(), 0);
    Check.due("inns(0)", x.inns(0), 0);
    Check.due("shorter(0)", x.shorter(0), Check.NONE);
    Check.due("write(-2)", x.write(-2), 1);
    Check.due("write(0)", x.write(0), Check.UNKNOWN);
  }
}
