import java.util.function.Supplier;
import java.util.function.ToIntFunction;

/** What the project's tests share: answers that are due, counted; lands made of a text; calls that are refused. */
final class Check {
  static final int NONE = -1, UNKNOWN = -1000000001, OUTSIDE = -1000000002, NOT = -1000000003, FULL = -1000000004;

  private static int asked = 0;
  private static int wrong = 0;
  private static String heading = "";

  private Check() {
  }

  /** The sentence of the document that what follows holds it to. */
  static void says(int promise, String sentence) {
    heading = "promise " + promise + " \"" + sentence + "\": ";
  }

  static void due(String call, long got, long want) {
    asked++;
    if (got == want) return;
    wrong++;
    if (wrong <= 50) System.out.println(heading + call + " answered " + got + ", due is " + want);
  }

  static void holds(String what, boolean is) {
    asked++;
    if (is) return;
    wrong++;
    System.out.println(heading + "does not hold: " + what);
  }

  /** The call is refused, and all later calls answer as those of a twin that was not asked. */
  static void refused(String call, Supplier<HasteRoads> maker, ToIntFunction<HasteRoads> ask, int want) {
    HasteRoads x = maker.get();
    due(call, ask.applyAsInt(x), want);
    same(call + " changes nothing", x, maker.get());
  }

  /** The call answers as is due, and all later calls answer as those of a twin that was not asked. */
  static void same(String what, HasteRoads x, HasteRoads twin) {
    String got = Picture.of(x);
    String want = Picture.of(twin);
    holds(what + "; it is\n  " + got + "\n  and was\n  " + want, got.equals(want));
  }

  static void feed(HasteRoads x, String text) {
    for (int i = 0; i < text.length(); i++) x.feed(text.charAt(i));
  }

  static HasteRoads land(String text) {
    HasteRoads x = new HasteRoads();
    feed(x, text);
    int places = x.land();
    holds("a land: " + text, places >= 0);
    return x;
  }

  /** As many minutes as are wanted, for one of 512 calls a 999. */
  static void await(HasteRoads x, int p, int minutes) {
    for (int left = minutes; left > 0; left -= 999) x.await(p, Math.min(999, left));
  }

  static void end(String name) {
    System.out.println(name + ": " + asked + " answers, " + wrong + " not as due");
    if (wrong != 0) System.exit(1);
  }
}
