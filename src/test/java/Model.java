import java.util.ArrayList;
import java.util.Arrays;
import java.util.HashMap;
import java.util.HashSet;
import java.util.List;
import java.util.Map;
import java.util.Set;

/**
 * The document's words tried out by looking at everything, minute by minute, with no thought of speed: what HasteRoads
 * answers is held against it. It shares no way of finding with the class.
 */
final class Model {
  static final int NONE = -1, UNKNOWN = -1000000001, OUTSIDE = -1000000002, NOT = -1000000003, FULL = -1000000004;

  private static final class Person implements Cloneable {
    int place, errand, haste, calm, due, load, minute;

    Person copy() {
      Person q = new Person();
      q.place = place;
      q.errand = errand;
      q.haste = haste;
      q.calm = calm;
      q.due = due;
      q.load = load;
      q.minute = minute;
      return q;
    }
  }

  private static final class State {
    int places;
    final List<int[]> roads = new ArrayList<>();
    final List<Person> persons = new ArrayList<>();
    final Set<Integer> inns = new HashSet<>();
    final Set<Integer> clocks = new HashSet<>();
    long seed;

    State copy() {
      State t = new State();
      t.places = places;
      for (int[] r : roads) t.roads.add(r.clone());
      for (Person p : persons) t.persons.add(p.copy());
      t.inns.addAll(inns);
      t.clocks.addAll(clocks);
      t.seed = seed;
      return t;
    }
  }

  private State now = new State();
  private final State[] images = new State[2];
  private StringBuilder text = new StringBuilder();
  private int faultAt = NONE;
  private final List<int[]> tookRows = new ArrayList<>();
  private final List<Integer> book = new ArrayList<>();

  // ---- the land

  int feed(int letter) {
    if (letter < 0 || letter > 255) return OUTSIDE;
    if (text.length() == 250) return FULL;
    text.append((char) letter);
    return text.length();
  }

  /** A FAULT: its letter and its number. */
  private static final class Fault extends Exception {
    private static final long serialVersionUID = 1;
    final int at, number;

    Fault(int at, int number) {
      this.at = at;
      this.number = number;
    }
  }

  int land() {
    String t = text.toString();
    text = new StringBuilder();
    faultAt = NONE;
    try {
      State s = parse(t);
      s.seed = now.seed;
      now = s;
      images[0] = images[1] = null;
      tookRows.clear();
      book.clear();
      return s.places;
    } catch (Fault f) {
      faultAt = f.at;
      return -10 - f.number;
    }
  }

  // Words and NUMBERS first, each with its letter; then the clauses by what each may hold.
  private static State parse(String t) throws Fault {
    List<String> tokens = new ArrayList<>();
    List<Integer> where = new ArrayList<>();
    for (int i = 0; i < t.length();) {
      int j = i + 1;
      if (t.charAt(i) >= '0' && t.charAt(i) <= '9') {
        while (j < t.length() && t.charAt(j) >= '0' && t.charAt(j) <= '9') j++;
      }
      if (t.charAt(i) != ' ') {
        tokens.add(t.substring(i, j));
        where.add(i);
      }
      i = j;
    }
    tokens.add("END");
    where.add(t.length());
    State s = new State();
    int k = 0;
    while (!tokens.get(k).equals("END")) {
      String word = tokens.get(k);
      int at = where.get(k);
      String kinds;
      switch (word) {
        case "p": kinds = "i"; break;
        case "r": kinds = "abl"; break;
        case "m": kinds = "xxhkt"; break;
        case "c": kinds = "c"; break;
        default: throw new Fault(at, 1);
      }
      if (word.equals("p") && s.places == 6 || word.equals("r") && s.roads.size() == 9
          || word.equals("m") && s.persons.size() == 4) throw new Fault(at, 3);
      int[] v = new int[kinds.length()];
      for (int n = 0; n < v.length; n++) {
        k++;
        String number = tokens.get(k);
        at = where.get(k);
        if (!Character.isDigit(number.charAt(0)) || number.charAt(0) > 127) throw new Fault(at, 1);
        if (number.length() > 3) throw new Fault(at, 2);
        v[n] = Integer.parseInt(number);
        int least = kinds.charAt(n) == 'l' ? 1 : 0;
        int most;
        switch (kinds.charAt(n)) {
          case 'i': most = 1; break;
          case 'l': most = 20; break;
          case 'h': most = 9; break;
          case 'k': most = 5; break;
          case 't': most = 999; break;
          default: most = s.places - 1;
        }
        if (v[n] < least || v[n] > most) throw new Fault(at, 2);
        if (kinds.charAt(n) == 'b' && v[1] == v[0]) throw new Fault(at, 4);
        if (kinds.charAt(n) == 'c' && s.clocks.contains(v[0])) throw new Fault(at, 4);
      }
      k++;
      if (!tokens.get(k).equals(";")) throw new Fault(where.get(k), 1);
      k++;
      tell(s, word, v);
    }
    return s;
  }

  private static void tell(State s, String word, int[] v) {
    if (word.equals("p")) {
      if (v[0] == 1) s.inns.add(s.places);
      s.places++;
    } else if (word.equals("r")) {
      s.roads.add(v.clone());
    } else if (word.equals("c")) {
      s.clocks.add(v[0]);
    } else {
      Person p = new Person();
      p.place = v[0];
      p.errand = v[1];
      p.haste = v[2];
      p.calm = v[3];
      p.due = v[4];
      s.persons.add(p);
    }
  }

  int fault() {
    return faultAt;
  }

  private static int bits(Set<Integer> set) {
    int b = 0;
    for (int k : set) b += 1 << k;
    return b;
  }

  int told(int what) {
    int[] all = {now.places, now.roads.size(), now.persons.size(), text.length(), bits(now.inns), bits(now.clocks),
        tookRows.size(), book.size()};
    return what < 0 || what > 7 ? OUTSIDE : all[what];
  }

  private boolean noPlace(int at) {
    return at < 0 || at >= now.places;
  }

  private boolean noRoad(int r) {
    return r < 0 || r >= now.roads.size();
  }

  private boolean noPerson(int p) {
    return p < 0 || p >= now.persons.size();
  }

  int road(int r, int what) {
    if (noRoad(r)) return UNKNOWN;
    return what < 0 || what > 2 ? OUTSIDE : now.roads.get(r)[what];
  }

  private static int hurry(State s, Person p, int at, int minute, int spend) {
    int h = p.haste + p.load;
    if (s.clocks.contains(at)) h += 1;
    if (p.due - minute < 10) h += 1;
    if (minute > p.due) h += 2;
    h -= spend;
    return h < 0 ? 0 : h;
  }

  int person(int p, int what) {
    if (noPerson(p)) return UNKNOWN;
    Person q = now.persons.get(p);
    int[] all = {q.place, q.errand, q.haste, q.calm, q.due, q.load, q.minute, hurry(now, q, q.place, q.minute, 0)};
    return what < 0 || what > 7 ? OUTSIDE : all[what];
  }

  private static int lasts(State s, Person p, int r, int at, int minute, int spend) {
    int twice = s.roads.get(r)[2] * (2 + hurry(s, p, at, minute, spend));
    return twice % 2 == 0 ? twice / 2 : twice / 2 + 1;
  }

  private static boolean leads(State s, int r, int at) {
    return s.roads.get(r)[0] == at || s.roads.get(r)[1] == at;
  }

  private static int other(State s, int r, int at) {
    return s.roads.get(r)[0] + s.roads.get(r)[1] - at;
  }

  int takes(int p, int r, int from, int minute, int s) {
    if (noPerson(p) || noRoad(r) || noPlace(from)) return UNKNOWN;
    if (minute < 0 || minute > 99999 || s < 0 || s > 5) return OUTSIDE;
    if (!leads(now, r, from)) return NOT;
    return lasts(now, now.persons.get(p), r, from, minute, s);
  }

  // ---- what is done

  private static void moves(State s, Person p, int r, int spend) {
    p.minute += lasts(s, p, r, p.place, p.minute, spend);
    p.calm -= spend;
    p.place = other(s, r, p.place);
  }

  private static void waits(State s, Person p) {
    p.minute++;
    if (s.inns.contains(p.place) && p.calm < 5) p.calm++;
  }

  int go(int p, int r, int s) {
    if (noPerson(p) || noRoad(r)) return UNKNOWN;
    if (s < 0 || s > 5) return OUTSIDE;
    Person q = now.persons.get(p);
    if (!leads(now, r, q.place) || q.calm < s) return NOT;
    if (q.minute > 90000) return FULL;
    moves(now, q, r, s);
    return q.minute;
  }

  int await(int p, int n) {
    if (noPerson(p)) return UNKNOWN;
    if (n < 1 || n > 999) return OUTSIDE;
    Person q = now.persons.get(p);
    if (q.minute > 90000) return FULL;
    for (int i = 0; i < n; i++) waits(now, q);
    return q.minute;
  }

  int load(int p, int v) {
    if (noPerson(p)) return UNKNOWN;
    if (v < 0 || v > 9) return OUTSIDE;
    int was = now.persons.get(p).load;
    now.persons.get(p).load = v;
    return was;
  }

  int inn(int at, boolean is) {
    if (noPlace(at)) return UNKNOWN;
    return (is ? !now.inns.add(at) : now.inns.remove(at)) ? 1 : 0;
  }

  int clock(int at, boolean is) {
    if (noPlace(at)) return UNKNOWN;
    return (is ? !now.clocks.add(at) : now.clocks.remove(at)) ? 1 : 0;
  }

  int miles(int r, int v) {
    if (noRoad(r)) return UNKNOWN;
    if (v < 1 || v > 20) return OUTSIDE;
    int was = now.roads.get(r)[2];
    now.roads.get(r)[2] = v;
    return was;
  }

  private int draw(int n) {
    now.seed = (now.seed * 1103515245L + 12345L) % 2147483648L;
    return (int) (now.seed / 65536 % n);
  }

  int drift(int n) {
    if (n < 1 || n > 99) return OUTSIDE;
    if (now.persons.isEmpty()) return NOT;
    for (int i = 0; i < n; i++) {
      Person p = now.persons.get(draw(now.persons.size()));
      if (p.minute > 9000) continue;
      List<Integer> ways = new ArrayList<>();
      for (int r = 0; r < now.roads.size(); r++) if (leads(now, r, p.place)) ways.add(r);
      int w = draw(ways.size() + 1);
      if (w == ways.size()) waits(now, p);
      else moves(now, p, ways.get(w), draw(p.calm + 1));
    }
    int most = 0;
    for (Person p : now.persons) most = Math.max(most, p.minute);
    return most;
  }

  // ---- tried

  /** The least minutes at all PLACES, by going through the minutes one by one with every CALM that can be had. */
  private static int[] soonestAll(State s, Person p) {
    boolean[] joined = joined(s, p.place);
    int[] first = new int[6];
    Arrays.fill(first, NONE);
    int missing = 0;
    for (boolean j : joined) if (j) missing++;
    Map<Integer, Set<Integer>> at = new HashMap<>();
    at.computeIfAbsent(p.minute, k -> new HashSet<>()).add(p.place * 6 + p.calm);
    for (int m = p.minute; missing > 0; m++) {
      Set<Integer> here = at.remove(m);
      if (here == null) continue;
      for (int state : here) {
        int place = state / 6, calm = state % 6;
        if (first[place] == NONE) {
          first[place] = m;
          missing--;
        }
        int waited = s.inns.contains(place) ? Math.min(5, calm + 1) : calm;
        at.computeIfAbsent(m + 1, k -> new HashSet<>()).add(place * 6 + waited);
        for (int r = 0; r < s.roads.size(); r++) {
          if (!leads(s, r, place)) continue;
          for (int spend = 0; spend <= calm; spend++) {
            int then = m + lasts(s, p, r, place, m, spend);
            at.computeIfAbsent(then, k -> new HashSet<>()).add(other(s, r, place) * 6 + calm - spend);
          }
        }
      }
    }
    return first;
  }

  private static boolean[] joined(State s, int from) {
    boolean[] j = new boolean[6];
    j[from] = true;
    for (int i = 0; i < 6; i++) {
      for (int[] r : s.roads) if (j[r[0]] || j[r[1]]) j[r[0]] = j[r[1]] = true;
    }
    return j;
  }

  private static int atErrand(State s, Person p) {
    return soonestAll(s, p)[p.errand];
  }

  int soonest(int p, int at) {
    return noPerson(p) || noPlace(at) ? UNKNOWN : soonestAll(now, now.persons.get(p))[at];
  }

  int step(int p, int i) {
    if (noPerson(p)) return UNKNOWN;
    if (i < 0 || i > 99) return OUTSIDE;
    Person q = now.persons.get(p);
    int goal = atErrand(now, q);
    if (goal == NONE) return NONE;
    List<Integer> row = new ArrayList<>();
    if (!firstRow(q, q.place, q.calm, q.minute, goal, row, new HashSet<>())) return 999999;
    return i < row.size() ? row.get(i) : NONE;
  }

  private boolean firstRow(Person q, int place, int calm, int minute, int goal, List<Integer> row, Set<Long> vain) {
    if (minute > goal) return false;
    if (place == q.errand && minute == goal) return true;
    long key = minute * 36L + place * 6 + calm;
    if (vain.contains(key)) return false;
    row.add(-2);
    int waited = now.inns.contains(place) ? Math.min(5, calm + 1) : calm;
    if (firstRow(q, place, waited, minute + 1, goal, row, vain)) return true;
    row.remove(row.size() - 1);
    for (int r = 0; r < now.roads.size(); r++) {
      if (!leads(now, r, place)) continue;
      for (int s = 0; s <= calm; s++) {
        row.add(10 * r + s);
        int then = minute + lasts(now, q, r, place, minute, s);
        if (firstRow(q, other(now, r, place), calm - s, then, goal, row, vain)) return true;
        row.remove(row.size() - 1);
      }
    }
    vain.add(key);
    return false;
  }

  int latest(int p) {
    if (noPerson(p)) return UNKNOWN;
    Person q = now.persons.get(p).copy();
    int own = q.minute;
    for (int m = q.due; m >= own; m--) {
      q.minute = m;
      int there = atErrand(now, q);
      if (there == NONE) return NONE;
      if (there <= q.due) return m;
    }
    return NONE;
  }

  int inns(int what) {
    if (what < 0 || what > 1) return OUTSIDE;
    State s = now.copy();
    int best = NONE;
    for (int set = 0; set < 1 << now.places; set++) {
      if (best != NONE && Integer.bitCount(set) >= Integer.bitCount(best)) continue;
      s.inns.clear();
      for (int k = 0; k < now.places; k++) if ((set >> k) % 2 == 1) s.inns.add(k);
      boolean all = true;
      for (Person p : s.persons) {
        int there = atErrand(s, p);
        if (there == NONE || there > p.due) {
          all = false;
          break;
        }
      }
      if (all) best = set;
    }
    return best == NONE ? NONE : what == 0 ? Integer.bitCount(best) : best;
  }

  private int relayBest, relayLeast;

  int relay(int from, int to, int what) {
    if (noPlace(from) || noPlace(to) || from == to) return UNKNOWN;
    if (what < 0 || what > 1) return OUTSIDE;
    relayBest = NONE;
    relayLeast = NONE;
    carry(from, to, 0, 0, 0, new HashMap<>());
    return what == 0 ? relayBest : relayLeast;
  }

  /** All orders in which PERSONS, each once, carry it on. */
  private void carry(int at, int to, int minute, int used, int carriers, Map<Integer, int[]> known) {
    if (at == to) {
      if (relayBest == NONE || minute < relayBest || minute == relayBest && carriers < relayLeast) {
        relayBest = minute;
        relayLeast = carriers;
      }
      return;
    }
    for (int p = 0; p < now.persons.size(); p++) {
      Person q = now.persons.get(p);
      if ((used >> p) % 2 == 1 || q.place != at) continue;
      int[] there = known.computeIfAbsent(minute * 4 + p, k -> {
        Person c = q.copy();
        c.minute = minute;
        return soonestAll(now, c);
      });
      for (int next = 0; next < now.places; next++) {
        if (next != at && there[next] != NONE) carry(next, to, there[next], used + (1 << p), carriers + 1, known);
      }
    }
  }

  int meet(int p, int q, int what) {
    if (noPerson(p) || noPerson(q) || p == q) return UNKNOWN;
    if (what < 0 || what > 1) return OUTSIDE;
    int[] a = soonestAll(now, now.persons.get(p));
    int[] b = soonestAll(now, now.persons.get(q));
    int best = NONE, place = NONE;
    for (int k = now.places - 1; k >= 0; k--) {
      if (a[k] == NONE || b[k] == NONE) continue;
      if (place == NONE || Math.max(a[k], b[k]) <= best) {
        best = Math.max(a[k], b[k]);
        place = k;
      }
    }
    return what == 0 ? best : place;
  }

  private static int together(State s) {
    int sum = 0;
    for (Person p : s.persons) {
      int there = atErrand(s, p);
      if (there == NONE) return NONE;
      sum += there;
    }
    return sum;
  }

  int cost(int at) {
    if (noPlace(at)) return UNKNOWN;
    State s = now.copy();
    s.clocks.add(at);
    int with = together(s);
    s.clocks.remove(at);
    return with == NONE ? NONE : with - together(s);
  }

  int shorter(int what) {
    if (what < 0 || what > 1) return OUTSIDE;
    int before = together(now);
    if (before == NONE) return NONE;
    int road = NONE, most = NONE;
    for (int r = now.roads.size() - 1; r >= 0; r--) {
      if (now.roads.get(r)[2] < 2) continue;
      State s = now.copy();
      s.roads.get(r)[2]--;
      int gain = before - together(s);
      if (gain >= most) {
        most = gain;
        road = r;
      }
    }
    return what == 0 ? road : most;
  }

  int lend(int p, int q, int k) {
    if (noPerson(p) || noPerson(q) || p == q) return UNKNOWN;
    if (k < 0 || k > 5) return OUTSIDE;
    Person a = now.persons.get(p), b = now.persons.get(q).copy();
    if (a.place != b.place || a.calm < k) return NOT;
    int before = atErrand(now, b);
    if (before == NONE) return NONE;
    b.calm = Math.min(5, b.calm + k);
    return before - atErrand(now, b);
  }

  int guard(int thief, int guard) {
    if (noPlace(thief) || noPlace(guard)) return UNKNOWN;
    Map<Integer, Boolean> known = new HashMap<>();
    for (int turns = 0; turns <= 40; turns++) if (caughtIn(thief, guard, turns, known)) return turns;
    return NONE;
  }

  private boolean caughtIn(int thief, int guard, int turns, Map<Integer, Boolean> known) {
    if (thief == guard) return true;
    if (turns == 0) return false;
    int key = turns * 36 + thief * 6 + guard;
    Boolean was = known.get(key);
    if (was != null) return was;
    boolean caught = true;
    for (int t : options(thief)) {
      boolean can = t == guard;
      for (int g : options(guard)) can = can || caughtIn(t, g, turns - 1, known);
      caught = caught && can;
    }
    known.put(key, caught);
    return caught;
  }

  private List<Integer> options(int at) {
    List<Integer> to = new ArrayList<>();
    to.add(at);
    for (int r = 0; r < now.roads.size(); r++) if (leads(now, r, at)) to.add(other(now, r, at));
    return to;
  }

  int round(int p, int set) {
    if (noPerson(p) || set < 0 || set >= 1 << now.places) return UNKNOWN;
    Person q = now.persons.get(p);
    boolean[] joined = joined(now, q.place);
    for (int k = 0; k < 6; k++) if ((set >> k) % 2 == 1 && !joined[k]) return NONE;
    Map<Integer, Set<Integer>> at = new HashMap<>();
    at.computeIfAbsent(q.minute, k -> new HashSet<>()).add((set & 1 << q.place) * 36 + q.place * 6 + q.calm);
    for (int m = q.minute;; m++) {
      Set<Integer> here = at.remove(m);
      if (here == null) continue;
      for (int state : here) {
        int seen = state / 36, place = state / 6 % 6, calm = state % 6;
        if (seen == set) return m;
        int waited = now.inns.contains(place) ? Math.min(5, calm + 1) : calm;
        at.computeIfAbsent(m + 1, k -> new HashSet<>()).add(seen * 36 + place * 6 + waited);
        for (int r = 0; r < now.roads.size(); r++) {
          if (!leads(now, r, place)) continue;
          int to = other(now, r, place);
          for (int s = 0; s <= calm; s++) {
            int then = m + lasts(now, q, r, place, m, s);
            at.computeIfAbsent(then, k -> new HashSet<>()).add((seen | set & 1 << to) * 36 + to * 6 + calm - s);
          }
        }
      }
    }
  }

  // ---- what was told

  int took(int p, int r, int from, int minute, int minutes) {
    if (noPerson(p) || noRoad(r) || noPlace(from)) return UNKNOWN;
    if (minute < 0 || minute > 999 || minutes < 1 || minutes > 999) return OUTSIDE;
    if (!leads(now, r, from)) return NOT;
    if (tookRows.size() == 20) return FULL;
    tookRows.add(new int[] {p, r, from, minute, minutes});
    return tookRows.size();
  }

  int spent(int i) {
    if (i < 0 || i >= tookRows.size()) return NONE;
    int[] t = tookRows.get(i);
    int set = 0;
    for (int s = 0; s <= 5; s++) {
      if (lasts(now, now.persons.get(t[0]), t[1], t[2], t[3], s) == t[4]) set += 1 << s;
    }
    return set;
  }

  int lie() {
    for (int i = 0; i < tookRows.size(); i++) if (spent(i) == 0) return i;
    return NONE;
  }

  int write(int step) {
    if (step >= 0 && noRoad(step / 10)) return UNKNOWN;
    if (step != -2 && (step < 0 || step > 95 || step % 10 > 5)) return OUTSIDE;
    if (book.size() == 30) return FULL;
    book.add(step);
    return book.size();
  }

  int tear() {
    int had = tookRows.size() + book.size();
    tookRows.clear();
    book.clear();
    return had;
  }

  int judge(int p, int what) {
    if (noPerson(p)) return UNKNOWN;
    if (what < 0 || what > 1) return OUTSIDE;
    Person q = now.persons.get(p).copy();
    int wrong = NONE;
    for (int i = 0; i < book.size() && wrong == NONE; i++) {
      int step = book.get(i);
      if (step == -2) waits(now, q);
      else if (!leads(now, step / 10, q.place) || step % 10 > q.calm) wrong = i;
      else moves(now, q, step / 10, step % 10);
    }
    return what == 0 ? wrong : q.minute;
  }

  // ---- images

  int seed(int v) {
    if (v < 0) return OUTSIDE;
    int was = (int) now.seed;
    now.seed = v;
    return was;
  }

  int keep(int i) {
    if (i < 0 || i > 1) return UNKNOWN;
    images[i] = now.copy();
    return 1;
  }

  int goBack(int i) {
    if (i < 0 || i > 1) return UNKNOWN;
    if (images[i] == null) return NOT;
    now = images[i].copy();
    return 1;
  }
}
