import java.util.Random;

/** Promises 1 to 35: runs of drawn calls, each answer held against the Model's. The draws are the same each time. */
public final class ModelTest {
  private static final int RUNS = 400;
  /** An object is used for at most 512 calls. A text is 252 letters at most and two calls, STEPS are 13 at most. */
  private static final int CALLS = 512;
  private static final int CALLS_OF_A_LAND = 254;
  private static final int CALLS_OF_STEPS = 13;

  private final Random random;
  private final HasteRoads real = new HasteRoads();
  private final Model model = new Model();
  private final StringBuilder history = new StringBuilder();
  private int places, roads, persons;
  private int asked;

  private ModelTest(long seed) {
    random = new Random(seed);
  }

  public static void main(String[] args) {
    int runs = args.length > 0 ? Integer.parseInt(args[0]) : RUNS;
    int from = args.length > 1 ? Integer.parseInt(args[1]) : 0;
    for (int run = from; run < from + runs; run++) new ModelTest(run).run(run);
    Check.end("ModelTest");
  }

  private void run(int run) {
    tellLand(run, false);
    while (asked + CALLS_OF_STEPS <= CALLS) {
      if (random.nextInt(60) == 0 && asked + CALLS_OF_A_LAND <= CALLS) tellLand(run, random.nextInt(4) > 0);
      else call(run);
    }
  }

  private void due(int run, String call, int got, int want) {
    asked++;
    Check.due("run " + run + ": " + (got == want ? "" : history) + call, got, want);
    if (history.length() < 5000) history.append(call).append('=').append(want).append(' ');
  }

  private int below(int n) {
    return random.nextInt(n);
  }

  private String blanks() {
    return below(8) == 0 ? "  " : "";
  }

  private String number(int n) {
    return below(12) == 0 && n < 100 ? "0" + n : "" + n;
  }

  private void tellLand(int run, boolean faulty) {
    StringBuilder text = new StringBuilder();
    int p = below(10) == 0 ? below(2) : 2 + below(5);
    int r = p < 2 ? 0 : below(10);
    int m = p == 0 ? 0 : below(5);
    int most = below(3) == 0 ? 3 : 20;
    for (int i = 0; i < p; i++) text.append(blanks()).append('p').append(blanks()).append(below(2)).append(';');
    for (int i = 0; i < r; i++) {
      int a = below(p);
      int b = (a + 1 + below(p - 1)) % p;
      text.append('r').append(number(a)).append(' ').append(number(b)).append(' ').append(number(1 + below(most)))
          .append(blanks()).append(';').append(blanks());
    }
    for (int i = 0; i < m; i++) {
      text.append('m').append(number(below(p))).append(' ').append(number(below(p))).append(' ').append(number(below(10)))
          .append(' ').append(number(below(6))).append(' ').append(number(below(below(2) == 0 ? 60 : 300))).append(';');
    }
    for (int i = 0; i < p; i++) if (below(4) == 0) text.append('c').append(blanks()).append(number(i)).append(';');
    if (faulty) spoil(text);
    for (int i = 0; i < text.length() && i < 252; i++) {
      int letter = text.charAt(i);
      due(run, "feed(" + letter + ")", real.feed(letter), model.feed(letter));
    }
    due(run, "land()", real.land(), model.land());
    due(run, "fault()", real.fault(), model.fault());
    history.append("[text ").append(text).append("] ");
    places = model.told(0);
    roads = model.told(1);
    persons = model.told(2);
  }

  private void spoil(StringBuilder text) {
    String signs = "0123456789 ;prmcx:/P";
    for (int n = 1 + below(2); n > 0 && text.length() > 0; n--) {
      int at = below(text.length());
      switch (below(4)) {
        case 0: text.deleteCharAt(at); break;
        case 1: text.setLength(at); break;
        case 2: text.setCharAt(at, signs.charAt(below(signs.length()))); break;
        default: text.insert(at, signs.charAt(below(signs.length())));
      }
    }
  }

  /** Mostly a number that there is, now and then one past it or below 0. */
  private int one(int n) {
    return below(25) == 0 || n == 0 ? below(n + 3) - 1 : below(n);
  }

  private void call(int run) {
    int p = one(persons), q = one(persons), r = one(roads), at = one(places), to = one(places), what = one(2);
    int n = one(10);
    switch (below(36)) {
      case 0: due(run, "told(" + n + ")", real.told(n), model.told(n)); break;
      case 1: due(run, "road(" + r + ", " + n + ")", real.road(r, n), model.road(r, n)); break;
      case 2: case 3: due(run, "person(" + p + ", " + n + ")", real.person(p, n), model.person(p, n)); break;
      case 4: {
        int minute = one(100000 >> below(11)), s = one(6);
        due(run, "takes(" + p + ", " + r + ", " + at + ", " + minute + ", " + s + ")", real.takes(p, r, at, minute, s),
            model.takes(p, r, at, minute, s));
        break;
      }
      case 5: case 6: {
        int s = one(4);
        due(run, "go(" + p + ", " + r + ", " + s + ")", real.go(p, r, s), model.go(p, r, s));
        break;
      }
      case 7: {
        int minutes = 1 + one(below(20) == 0 ? 999 : 12);
        due(run, "await(" + p + ", " + minutes + ")", real.await(p, minutes), model.await(p, minutes));
        break;
      }
      case 8: due(run, "load(" + p + ", " + n + ")", real.load(p, n), model.load(p, n)); break;
      case 9: due(run, "inn(" + at + ", " + (n > 4) + ")", real.inn(at, n > 4), model.inn(at, n > 4)); break;
      case 10: due(run, "clock(" + at + ", " + (n > 4) + ")", real.clock(at, n > 4), model.clock(at, n > 4)); break;
      case 11: {
        int v = 1 + one(20);
        due(run, "miles(" + r + ", " + v + ")", real.miles(r, v), model.miles(r, v));
        break;
      }
      case 12: {
        int times = 1 + one(below(9) == 0 ? 99 : 9);
        due(run, "drift(" + times + ")", real.drift(times), model.drift(times));
        break;
      }
      case 13: case 14: due(run, "soonest(" + p + ", " + at + ")", real.soonest(p, at), model.soonest(p, at)); break;
      case 15: case 16: steps(run, p); break;
      case 17: due(run, "latest(" + p + ")", real.latest(p), model.latest(p)); break;
      case 18: due(run, "inns(" + what + ")", real.inns(what), model.inns(what)); break;
      case 19: case 20: due(run, "relay(" + at + ", " + to + ", " + what + ")", real.relay(at, to, what), model.relay(at, to, what)); break;
      case 21: due(run, "meet(" + p + ", " + q + ", " + what + ")", real.meet(p, q, what), model.meet(p, q, what)); break;
      case 22: due(run, "cost(" + at + ")", real.cost(at), model.cost(at)); break;
      case 23: due(run, "shorter(" + what + ")", real.shorter(what), model.shorter(what)); break;
      case 24: {
        int k = one(6);
        due(run, "lend(" + p + ", " + q + ", " + k + ")", real.lend(p, q, k), model.lend(p, q, k));
        break;
      }
      case 25: due(run, "guard(" + at + ", " + to + ")", real.guard(at, to), model.guard(at, to)); break;
      case 26: {
        int set = one(1 << places);
        due(run, "round(" + p + ", " + set + ")", real.round(p, set), model.round(p, set));
        break;
      }
      case 27: case 28: took(run, p, r, at); break;
      case 29: due(run, "spent(" + n + ")", real.spent(n), model.spent(n)); break;
      case 30: due(run, "lie()", real.lie(), model.lie()); break;
      case 31: case 32: {
        int step = below(3) == 0 ? -2 : below(15) == 0 ? below(130) - 20 : 10 * r + one(3);
        due(run, "write(" + step + ")", real.write(step), model.write(step));
        break;
      }
      case 33: due(run, "judge(" + p + ", " + what + ")", real.judge(p, what), model.judge(p, what)); break;
      case 34: rare(run, what); break;
      default: {
        int i = one(2);
        if (below(2) == 0) due(run, "keep(" + i + ")", real.keep(i), model.keep(i));
        else due(run, "goBack(" + i + ")", real.goBack(i), model.goBack(i));
      }
    }
  }

  private void steps(int run, int p) {
    for (int i = 0; i < 12; i++) {
      int want = model.step(p, i);
      due(run, "step(" + p + ", " + i + ")", real.step(p, i), want);
      if (want < 0 && want != -2) return;
    }
    due(run, "step(" + p + ", 100)", real.step(p, 100), model.step(p, 100));
  }

  private void took(int run, int p, int r, int at) {
    int minute = one(below(2) == 0 ? 1000 : 100);
    int lasted = below(6) == 0 ? one(1000) : model.takes(p, r, at, Math.max(minute, 0), below(6));
    due(run, "took(" + p + ", " + r + ", " + at + ", " + minute + ", " + lasted + ")",
        real.took(p, r, at, minute, lasted), model.took(p, r, at, minute, lasted));
  }

  private void rare(int run, int what) {
    if (what == 0) {
      due(run, "tear()", real.tear(), model.tear());
    } else {
      int v = below(9) == 0 ? random.nextInt() : below(1 << 30);
      due(run, "seed(" + v + ")", real.seed(v), model.seed(v));
    }
  }
}
