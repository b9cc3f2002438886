import java.util.Random;
import java.util.Set;
import java.util.TreeSet;

/**
 * Promises 17 to 20, 22 and 23 where T is just met or just missed: in drawn lands each T lies between what a PERSON needs
 * with an INN at every PLACE and what it needs without one, so that INNS decide. The answers are held against the Model's.
 */
public final class TightTest {
  private static final int LANDS = 300;
  private static final int MOST_LETTERS = 250;

  private final Random random;
  private final Set<Integer> innsAnswered;
  private int places;
  private int persons;

  private TightTest(long seed, Set<Integer> innsAnswered) {
    random = new Random(seed);
    this.innsAnswered = innsAnswered;
  }

  public static void main(String[] args) {
    Set<Integer> innsAnswered = new TreeSet<>();
    for (int land = 0; land < LANDS; land++) new TightTest(land, innsAnswered).ask();
    Check.holds("lands that need 0, 1, 2, 3 INNS and such that none help: " + innsAnswered,
        innsAnswered.containsAll(Set.of(Check.NONE, 0, 1, 2, 3)));
    Check.end("TightTest");
  }

  private int below(int n) {
    return random.nextInt(n);
  }

  private void ask() {
    String text = drawLand();
    if (text.length() > MOST_LETTERS) return;
    HasteRoads real = new HasteRoads();
    Model model = new Model();
    Check.feed(real, text);
    for (int i = 0; i < text.length(); i++) model.feed(text.charAt(i));
    Check.due("land() of " + text, real.land(), model.land());
    innsAnswered.add(model.inns(0));
    for (int what = 0; what <= 1; what++) {
      Check.due("inns(" + what + ") of " + text, real.inns(what), model.inns(what));
      Check.due("shorter(" + what + ") of " + text, real.shorter(what), model.shorter(what));
    }
    for (int at = 0; at < places; at++) Check.due("cost(" + at + ") of " + text, real.cost(at), model.cost(at));
    for (int p = 0; p < persons; p++) {
      Check.due("latest(" + p + ") of " + text, real.latest(p), model.latest(p));
      for (int i = 0; i < 9; i++) Check.due("step(" + p + ", " + i + ") of " + text, real.step(p, i), model.step(p, i));
    }
    for (int n = 0; n < 6; n++) {
      int from = below(places), to = below(places);
      Check.due("relay(" + from + ", " + to + ", 0) of " + text, real.relay(from, to, 0), model.relay(from, to, 0));
      Check.due("relay(" + from + ", " + to + ", 1) of " + text, real.relay(from, to, 1), model.relay(from, to, 1));
    }
  }

  /** All PLACES are joined. */
  private String drawLand() {
    places = 3 + below(4);
    int miles = new int[] {4, 10, 20}[below(3)];
    StringBuilder land = new StringBuilder();
    for (int at = 0; at < places; at++) land.append('p').append(below(2)).append(';');
    for (int at = 1; at < places; at++) drawRoad(land, at, below(at), miles);
    for (int more = below(11 - places); more > 0; more--) {
      int a = below(places);
      drawRoad(land, a, (a + 1 + below(places - 1)) % places, miles);
    }
    for (int at = 0; at < places; at++) if (below(3) == 0) land.append('c').append(at).append(';');
    StringBuilder people = new StringBuilder();
    for (persons = 0; persons == 0 || persons < 4 && below(3) > 0; persons++) {
      String person = "m" + below(places) + " " + below(places) + " " + below(10) + " " + below(4) + " ";
      int least = needs(land + person + "999;", true);
      int most = needs(land + person + "999;", false);
      people.append(person).append(Math.min(999, least + below(most - least + 1) + below(9))).append(';');
    }
    return land.append(people).toString();
  }

  private void drawRoad(StringBuilder land, int a, int b, int miles) {
    land.append('r').append(a).append(' ').append(b).append(' ').append(1 + below(miles)).append(';');
  }

  private int needs(String land, boolean inns) {
    Model model = new Model();
    for (int i = 0; i < land.length(); i++) model.feed(land.charAt(i));
    model.land();
    for (int at = 0; at < places; at++) model.inn(at, inns);
    return model.soonest(0, model.person(0, 1));
  }
}
