/** What the project's tests share: answers that are due, counted; lands made of a text. */
final class Check {
  static final int NONE = -1, UNKNOWN = -1000000001, OUTSIDE = -1000000002, NOT = -1000000003, FULL = -1000000004;

  private static int asked = 0;
  private static int wrong = 0;

  private Check() {
  }

  static void due(String call, long got, long want) {
    asked++;
    if (got == want) return;
    wrong++;
    if (wrong <= 50) System.out.println(call + " answered " + got + ", due is " + want);
  }

  static void holds(String what, boolean is) {
    asked++;
    if (is) return;
    wrong++;
    System.out.println("does not hold: " + what);
  }

  static void feed(HasteRoads x, String text) {
    for (int i = 0; i < text.length(); i++) x.feed(text.charAt(i));
  }

  static HasteRoads land(String text) {
    HasteRoads x = new HasteRoads();
    feed(x, text);
    int places = x.land();
    holds("a land: " + text, places >= 0);
    return x;
  }

  static void end(String name) {
    System.out.println(name + ": " + asked + " answers, " + wrong + " not as due");
    if (wrong != 0) System.exit(1);
  }
}
