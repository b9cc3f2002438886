import java.lang.reflect.InvocationTargetException;
import java.lang.reflect.Method;
import java.lang.reflect.Modifier;
import java.util.ArrayList;
import java.util.Comparator;
import java.util.List;
import java.util.Random;

/** No call ever throws or fails to end, whatever its arguments and whatever came ahead of it. */
public final class WildTest {
  private static final int[] EDGES = {Integer.MIN_VALUE, Integer.MIN_VALUE + 1, -1000000004, -10, -3, -2, -1, 0, 1, 2, 3, 4,
    5, 6, 7, 8, 9, 10, 19, 20, 21, 63, 64, 95, 96, 99, 100, 250, 251, 255, 256, 999, 1000, 90000, 99999, 100000, 1 << 30,
    Integer.MAX_VALUE - 1, Integer.MAX_VALUE};
  private static final String SIGNS = "prmc;;;  0011234569";

  public static void main(String[] args) throws IllegalAccessException {
    List<Method> calls = new ArrayList<>();
    for (Method m : HasteRoads.class.getDeclaredMethods()) if (Modifier.isPublic(m.getModifiers())) calls.add(m);
    calls.sort(Comparator.comparing(Method::getName));
    for (int run = 0; run < 2000; run++) wild(new Random(run), calls, run);
    Check.end("WildTest");
  }

  private static void wild(Random random, List<Method> calls, int run) throws IllegalAccessException {
    HasteRoads x = new HasteRoads();
    if (run % 4 > 0) {
      Check.feed(x, "p1;p1;p0;p1;p0;p1;r0 1 20;r1 2 13;r2 3 18;r3 4 20;r4 5 20;r0 5 19;r1 4 1;r2 5 7;r0 3 9;"
          + "m0 5 9 5 0;m2 4 9 5 60;m4 0 9 0 999;m0 3 0 1 120;c0;c4;");
      x.land();
    }
    StringBuilder history = new StringBuilder();
    for (int i = 0; i < 300; i++) {
      Method m = calls.get(random.nextInt(calls.size()));
      if (m.getName().equals("land") && random.nextInt(40) > 0) continue;
      Object[] values = new Object[m.getParameterCount()];
      for (int k = 0; k < values.length; k++) {
        if (m.getParameterTypes()[k] == boolean.class) values[k] = random.nextBoolean();
        else if (m.getName().equals("feed")) values[k] = (int) SIGNS.charAt(random.nextInt(SIGNS.length()));
        else values[k] = random.nextInt(3) == 0 ? EDGES[random.nextInt(EDGES.length)] : random.nextInt(6);
      }
      history.append(m.getName()).append(java.util.Arrays.toString(values)).append(' ');
      try {
        m.invoke(x, values);
      } catch (InvocationTargetException e) {
        Check.holds("run " + run + " threw " + e.getCause() + " at the end of " + history, false);
        return;
      }
    }
    Check.holds("run " + run, true);
  }
}
