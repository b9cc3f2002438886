import java.util.function.Supplier;
import java.util.function.ToIntFunction;

/**
 * Every refusal of every promise: its answer, of several the first in the order UNKNOWN, OUTSIDE, NOT, FULL, and that
 * what is refused changes nothing. Beside each bound that refuses, the last value that is taken.
 */
public final class RefusalsTest {
  private static final int LEAST = Integer.MIN_VALUE;
  private static final int MOST = Integer.MAX_VALUE;
  private static final int[] NO_PLACE = {-1, 4, LEAST, MOST};
  private static final int[] NO_ROAD = {-1, 3, LEAST, MOST};
  private static final int[] NO_PERSON = {-1, 3, LEAST, MOST};
  private static final int[] NO_IMAGE = {-1, 2, LEAST, MOST};

  public static void main(String[] args) {
    land();
    takes();
    done();
    minutesFull();
    tried();
    took();
    write();
    judge();
    images();
    Check.end("RefusalsTest");
  }

  /** 4 PLACES, 3 ROADS, 3 PERSONS, nothing of it as at first: IMAGE 0 is kept, a text is begun. */
  private static HasteRoads rich() {
    HasteRoads x = Check.land("p1;p0;p0;p1;r0 1 7;r1 2 4;r0 1 2;m0 2 4 3 50;m0 1 2 1 30;m1 0 0 5 9;c1;");
    x.seed(4711);
    x.await(0, 1);
    x.load(1, 2);
    x.keep(0);
    x.go(2, 1, 3);
    x.inn(2, true);
    x.clock(3, true);
    x.miles(2, 3);
    x.took(0, 0, 0, 0, 21);
    x.took(1, 0, 1, 5, 4);
    x.write(-2);
    x.write(1);
    Check.feed(x, "p0;p1");
    return x;
  }

  private static void refused(String call, ToIntFunction<HasteRoads> ask, int want) {
    Check.refused(call, RefusalsTest::rich, ask, want);
  }

  /** Promises 2 to 7. */
  private static void land() {
    Check.says(2, "OUTSIDE");
    for (int letter : new int[] {-1, 256, LEAST, MOST}) refused("feed(" + letter + ")", x -> x.feed(letter), Check.OUTSIDE);
    Check.says(5, "OUTSIDE");
    for (int what : new int[] {-1, 8, LEAST, MOST}) refused("told(" + what + ")", x -> x.told(what), Check.OUTSIDE);
    Check.says(6, "UNKNOWN, OUTSIDE");
    for (int what : new int[] {-1, 3, LEAST, MOST}) refused("road(2, " + what + ")", x -> x.road(2, what), Check.OUTSIDE);
    for (int r : NO_ROAD) {
      refused("road(" + r + ", 0)", x -> x.road(r, 0), Check.UNKNOWN);
      refused("road(" + r + ", 3), UNKNOWN ahead of OUTSIDE", x -> x.road(r, 3), Check.UNKNOWN);
    }
    Check.says(7, "UNKNOWN, OUTSIDE");
    for (int what : new int[] {-1, 8, LEAST, MOST}) refused("person(2, " + what + ")", x -> x.person(2, what), Check.OUTSIDE);
    for (int p : NO_PERSON) {
      refused("person(" + p + ", 0)", x -> x.person(p, 0), Check.UNKNOWN);
      refused("person(" + p + ", 8), UNKNOWN ahead of OUTSIDE", x -> x.person(p, 8), Check.UNKNOWN);
    }
  }

  /** Promise 8. */
  private static void takes() {
    Check.says(8, "UNKNOWN, OUTSIDE, NOT: the ROAD does not lead from there");
    for (int p : NO_PERSON) {
      refused("takes(" + p + ", 0, 0, 0, 0)", x -> x.takes(p, 0, 0, 0, 0), Check.UNKNOWN);
      refused("takes(" + p + ", 0, 2, -1, 6), UNKNOWN is first", x -> x.takes(p, 0, 2, -1, 6), Check.UNKNOWN);
    }
    for (int r : NO_ROAD) {
      refused("takes(0, " + r + ", 0, 0, 0)", x -> x.takes(0, r, 0, 0, 0), Check.UNKNOWN);
      refused("takes(0, " + r + ", 0, -1, 6), UNKNOWN is first", x -> x.takes(0, r, 0, -1, 6), Check.UNKNOWN);
    }
    for (int from : NO_PLACE) {
      refused("takes(0, 0, " + from + ", 0, 0)", x -> x.takes(0, 0, from, 0, 0), Check.UNKNOWN);
      refused("takes(0, 0, " + from + ", -1, 6), UNKNOWN is first", x -> x.takes(0, 0, from, -1, 6), Check.UNKNOWN);
    }
    for (int minute : new int[] {-1, 100000, LEAST, MOST}) {
      refused("takes(0, 0, 0, " + minute + ", 0)", x -> x.takes(0, 0, 0, minute, 0), Check.OUTSIDE);
      refused("takes(0, 0, 2, " + minute + ", 0), OUTSIDE ahead of NOT", x -> x.takes(0, 0, 2, minute, 0), Check.OUTSIDE);
    }
    for (int s : new int[] {-1, 6, LEAST, MOST}) {
      refused("takes(0, 0, 0, 0, " + s + ")", x -> x.takes(0, 0, 0, 0, s), Check.OUTSIDE);
      refused("takes(0, 0, 2, 0, " + s + "), OUTSIDE ahead of NOT", x -> x.takes(0, 0, 2, 0, s), Check.OUTSIDE);
    }
    refused("takes(0, 0, 2, 0, 0)", x -> x.takes(0, 0, 2, 0, 0), Check.NOT);
    refused("takes(0, 0, 3, 99999, 5)", x -> x.takes(0, 0, 3, 99999, 5), Check.NOT);
    refused("takes(0, 1, 0, 0, 0)", x -> x.takes(0, 1, 0, 0, 0), Check.NOT);
  }

  /** Promises 9 to 15, but for FULL. */
  private static void done() {
    Check.says(9, "UNKNOWN, OUTSIDE (s 0 .. 5), NOT: the ROAD does not lead from where it is; it has not so much CALM");
    for (int p : NO_PERSON) {
      refused("go(" + p + ", 0, 0)", x -> x.go(p, 0, 0), Check.UNKNOWN);
      refused("go(" + p + ", 0, 6), UNKNOWN ahead of OUTSIDE", x -> x.go(p, 0, 6), Check.UNKNOWN);
    }
    for (int r : NO_ROAD) {
      refused("go(0, " + r + ", 0)", x -> x.go(0, r, 0), Check.UNKNOWN);
      refused("go(0, " + r + ", 6), UNKNOWN ahead of OUTSIDE", x -> x.go(0, r, 6), Check.UNKNOWN);
    }
    for (int s : new int[] {-1, 6, LEAST, MOST}) {
      refused("go(0, 0, " + s + ")", x -> x.go(0, 0, s), Check.OUTSIDE);
      refused("go(0, 1, " + s + "), OUTSIDE ahead of NOT", x -> x.go(0, 1, s), Check.OUTSIDE);
    }
    refused("go(0, 1, 0), not from where it is", x -> x.go(0, 1, 0), Check.NOT);
    refused("go(0, 0, 5), CALM is 4", x -> x.go(0, 0, 5), Check.NOT);
    refused("go(1, 0, 2), CALM is 1", x -> x.go(1, 0, 2), Check.NOT);
    Check.says(10, "UNKNOWN, OUTSIDE");
    for (int p : NO_PERSON) {
      refused("await(" + p + ", 1)", x -> x.await(p, 1), Check.UNKNOWN);
      refused("await(" + p + ", 0), UNKNOWN ahead of OUTSIDE", x -> x.await(p, 0), Check.UNKNOWN);
    }
    for (int n : new int[] {0, 1000, -1, LEAST, MOST}) refused("await(0, " + n + ")", x -> x.await(0, n), Check.OUTSIDE);
    Check.says(11, "UNKNOWN, OUTSIDE");
    for (int p : NO_PERSON) {
      refused("load(" + p + ", 1)", x -> x.load(p, 1), Check.UNKNOWN);
      refused("load(" + p + ", 10), UNKNOWN ahead of OUTSIDE", x -> x.load(p, 10), Check.UNKNOWN);
    }
    for (int v : new int[] {-1, 10, LEAST, MOST}) refused("load(1, " + v + ")", x -> x.load(1, v), Check.OUTSIDE);
    for (int at : NO_PLACE) {
      Check.says(12, "UNKNOWN");
      refused("inn(" + at + ", true)", x -> x.inn(at, true), Check.UNKNOWN);
      refused("inn(" + at + ", false)", x -> x.inn(at, false), Check.UNKNOWN);
      Check.says(13, "UNKNOWN");
      refused("clock(" + at + ", true)", x -> x.clock(at, true), Check.UNKNOWN);
      refused("clock(" + at + ", false)", x -> x.clock(at, false), Check.UNKNOWN);
    }
    Check.says(14, "UNKNOWN, OUTSIDE");
    for (int r : NO_ROAD) {
      refused("miles(" + r + ", 5)", x -> x.miles(r, 5), Check.UNKNOWN);
      refused("miles(" + r + ", 0), UNKNOWN ahead of OUTSIDE", x -> x.miles(r, 0), Check.UNKNOWN);
    }
    for (int v : new int[] {0, 21, -1, LEAST, MOST}) refused("miles(0, " + v + ")", x -> x.miles(0, v), Check.OUTSIDE);
    Check.says(15, "OUTSIDE, NOT: no PERSONS");
    for (int n : new int[] {0, 100, -1, LEAST, MOST}) refused("drift(" + n + ")", x -> x.drift(n), Check.OUTSIDE);
    Supplier<HasteRoads> nobody = () -> Check.land("p1;p0;r0 1 3;");
    for (int n : new int[] {1, 99}) Check.refused("drift(" + n + ") of nobody", nobody, x -> x.drift(n), Check.NOT);
    for (int n : new int[] {0, 100}) {
      Check.refused("drift(" + n + ") of nobody, OUTSIDE ahead of NOT", nobody, x -> x.drift(n), Check.OUTSIDE);
    }
  }

  private static HasteRoads atMinute(int minute) {
    HasteRoads x = Check.land("p0;p1;p0;r0 1 1;r1 2 1;m0 1 0 3 0;m1 1 0 0 0;");
    Check.await(x, 0, minute);
    Check.await(x, 1, minute);
    return x;
  }

  /** Promises 9 and 10. */
  private static void minutesFull() {
    Supplier<HasteRoads> last = () -> atMinute(90000);
    Supplier<HasteRoads> above = () -> atMinute(90001);
    Check.says(9, "FULL: MINUTE above 90000");
    Check.due("go(0, 0, 0) at 90000", last.get().go(0, 0, 0), 90003);
    Check.refused("go(0, 0, 0) at 90001", above, x -> x.go(0, 0, 0), Check.FULL);
    Check.refused("go(0, 1, 0), NOT ahead of FULL", above, x -> x.go(0, 1, 0), Check.NOT);
    Check.refused("go(0, 0, 4), NOT ahead of FULL", above, x -> x.go(0, 0, 4), Check.NOT);
    Check.refused("go(0, 0, 6), OUTSIDE ahead of FULL", above, x -> x.go(0, 0, 6), Check.OUTSIDE);
    Check.refused("go(0, 2, 0), UNKNOWN ahead of FULL", above, x -> x.go(0, 2, 0), Check.UNKNOWN);
    Check.says(10, "FULL: MINUTE above 90000");
    Check.due("await(1, 1) at 90000", last.get().await(1, 1), 90001);
    Check.due("await(1, 999) at 90000", last.get().await(1, 999), 90999);
    Check.refused("await(0, 1) at 90001", above, x -> x.await(0, 1), Check.FULL);
    Check.refused("await(1, 999) at 90001, at an INN", above, x -> x.await(1, 999), Check.FULL);
    Check.refused("await(0, 0), OUTSIDE ahead of FULL", above, x -> x.await(0, 0), Check.OUTSIDE);
    Check.refused("await(2, 1), UNKNOWN ahead of FULL", above, x -> x.await(2, 1), Check.UNKNOWN);
  }

  /** Promises 16 to 26. */
  private static void tried() {
    for (int p : NO_PERSON) triedOfNobody(p);
    for (int at : NO_PLACE) triedNowhere(at);
    Check.says(17, "OUTSIDE (i 0 .. 99)");
    for (int i : new int[] {-1, 100, LEAST, MOST}) refused("step(0, " + i + ")", x -> x.step(0, i), Check.OUTSIDE);
    for (int what : new int[] {-1, 2, LEAST, MOST}) triedWhat(what);
    Check.says(20, "UNKNOWN: one twice");
    refused("relay(0, 0, 0)", x -> x.relay(0, 0, 0), Check.UNKNOWN);
    refused("relay(3, 3, 1)", x -> x.relay(3, 3, 1), Check.UNKNOWN);
    refused("relay(0, 0, 2), UNKNOWN ahead of OUTSIDE", x -> x.relay(0, 0, 2), Check.UNKNOWN);
    Check.says(21, "UNKNOWN: one twice");
    refused("meet(0, 0, 0)", x -> x.meet(0, 0, 0), Check.UNKNOWN);
    refused("meet(2, 2, 1)", x -> x.meet(2, 2, 1), Check.UNKNOWN);
    refused("meet(2, 2, 2), UNKNOWN ahead of OUTSIDE", x -> x.meet(2, 2, 2), Check.UNKNOWN);
    Check.says(24, "UNKNOWN, OUTSIDE (k 0 .. 5), NOT: they are not at one PLACE, it has not so much");
    refused("lend(0, 0, 0), one twice", x -> x.lend(0, 0, 0), Check.UNKNOWN);
    refused("lend(0, 0, 6), UNKNOWN ahead of OUTSIDE", x -> x.lend(0, 0, 6), Check.UNKNOWN);
    for (int k : new int[] {-1, 6, LEAST, MOST}) {
      refused("lend(0, 1, " + k + ")", x -> x.lend(0, 1, k), Check.OUTSIDE);
      refused("lend(0, 2, " + k + "), OUTSIDE ahead of NOT", x -> x.lend(0, 2, k), Check.OUTSIDE);
    }
    refused("lend(0, 2, 0), not at one PLACE", x -> x.lend(0, 2, 0), Check.NOT);
    refused("lend(0, 1, 5), CALM is 4", x -> x.lend(0, 1, 5), Check.NOT);
    refused("lend(1, 0, 2), CALM is 1", x -> x.lend(1, 0, 2), Check.NOT);
    Check.says(26, "a SET of PLACES");
    for (int set : new int[] {-1, 16, 17, 32, 64, LEAST, MOST}) {
      refused("round(0, " + set + ")", x -> x.round(0, set), Check.UNKNOWN);
    }
  }

  private static void triedOfNobody(int p) {
    Check.says(16, "UNKNOWN");
    refused("soonest(" + p + ", 0)", x -> x.soonest(p, 0), Check.UNKNOWN);
    Check.says(17, "UNKNOWN");
    refused("step(" + p + ", 0)", x -> x.step(p, 0), Check.UNKNOWN);
    refused("step(" + p + ", 100), UNKNOWN ahead of OUTSIDE", x -> x.step(p, 100), Check.UNKNOWN);
    Check.says(18, "UNKNOWN");
    refused("latest(" + p + ")", x -> x.latest(p), Check.UNKNOWN);
    Check.says(21, "UNKNOWN");
    refused("meet(" + p + ", 0, 0)", x -> x.meet(p, 0, 0), Check.UNKNOWN);
    refused("meet(0, " + p + ", 1)", x -> x.meet(0, p, 1), Check.UNKNOWN);
    refused("meet(0, " + p + ", 2), UNKNOWN ahead of OUTSIDE", x -> x.meet(0, p, 2), Check.UNKNOWN);
    refused("meet(" + p + ", 0, 2), UNKNOWN ahead of OUTSIDE", x -> x.meet(p, 0, 2), Check.UNKNOWN);
    Check.says(24, "UNKNOWN");
    refused("lend(" + p + ", 0, 0)", x -> x.lend(p, 0, 0), Check.UNKNOWN);
    refused("lend(0, " + p + ", 0)", x -> x.lend(0, p, 0), Check.UNKNOWN);
    refused("lend(0, " + p + ", 6), UNKNOWN ahead of OUTSIDE", x -> x.lend(0, p, 6), Check.UNKNOWN);
    refused("lend(" + p + ", 0, 6), UNKNOWN ahead of OUTSIDE", x -> x.lend(p, 0, 6), Check.UNKNOWN);
    Check.says(26, "UNKNOWN");
    refused("round(" + p + ", 0)", x -> x.round(p, 0), Check.UNKNOWN);
    refused("round(" + p + ", 16)", x -> x.round(p, 16), Check.UNKNOWN);
  }

  private static void triedNowhere(int at) {
    Check.says(16, "UNKNOWN");
    refused("soonest(0, " + at + ")", x -> x.soonest(0, at), Check.UNKNOWN);
    Check.says(20, "UNKNOWN");
    refused("relay(" + at + ", 0, 0)", x -> x.relay(at, 0, 0), Check.UNKNOWN);
    refused("relay(0, " + at + ", 1)", x -> x.relay(0, at, 1), Check.UNKNOWN);
    refused("relay(0, " + at + ", 2), UNKNOWN ahead of OUTSIDE", x -> x.relay(0, at, 2), Check.UNKNOWN);
    refused("relay(" + at + ", 0, 2), UNKNOWN ahead of OUTSIDE", x -> x.relay(at, 0, 2), Check.UNKNOWN);
    Check.says(22, "UNKNOWN");
    refused("cost(" + at + ")", x -> x.cost(at), Check.UNKNOWN);
    Check.says(25, "UNKNOWN");
    refused("guard(" + at + ", 0)", x -> x.guard(at, 0), Check.UNKNOWN);
    refused("guard(0, " + at + ")", x -> x.guard(0, at), Check.UNKNOWN);
    refused("guard(" + at + ", " + at + ")", x -> x.guard(at, at), Check.UNKNOWN);
  }

  private static void triedWhat(int what) {
    Check.says(19, "OUTSIDE");
    refused("inns(" + what + ")", x -> x.inns(what), Check.OUTSIDE);
    Check.says(20, "OUTSIDE");
    refused("relay(0, 1, " + what + ")", x -> x.relay(0, 1, what), Check.OUTSIDE);
    Check.says(21, "OUTSIDE");
    refused("meet(0, 1, " + what + ")", x -> x.meet(0, 1, what), Check.OUTSIDE);
    Check.says(23, "OUTSIDE");
    refused("shorter(" + what + ")", x -> x.shorter(what), Check.OUTSIDE);
  }

  /** Promise 27. */
  private static void took() {
    Check.says(27, "UNKNOWN, OUTSIDE, NOT: the ROAD does not lead from there");
    for (int p : NO_PERSON) {
      refused("took(" + p + ", 0, 0, 0, 1)", x -> x.took(p, 0, 0, 0, 1), Check.UNKNOWN);
      refused("took(" + p + ", 0, 2, -1, 0), UNKNOWN is first", x -> x.took(p, 0, 2, -1, 0), Check.UNKNOWN);
    }
    for (int r : NO_ROAD) {
      refused("took(0, " + r + ", 0, 0, 1)", x -> x.took(0, r, 0, 0, 1), Check.UNKNOWN);
      refused("took(0, " + r + ", 0, -1, 0), UNKNOWN is first", x -> x.took(0, r, 0, -1, 0), Check.UNKNOWN);
    }
    for (int from : NO_PLACE) {
      refused("took(0, 0, " + from + ", 0, 1)", x -> x.took(0, 0, from, 0, 1), Check.UNKNOWN);
      refused("took(0, 0, " + from + ", -1, 0), UNKNOWN is first", x -> x.took(0, 0, from, -1, 0), Check.UNKNOWN);
    }
    for (int minute : new int[] {-1, 1000, LEAST, MOST}) {
      refused("took(0, 0, 0, " + minute + ", 1)", x -> x.took(0, 0, 0, minute, 1), Check.OUTSIDE);
      refused("took(0, 0, 2, " + minute + ", 1), OUTSIDE ahead of NOT", x -> x.took(0, 0, 2, minute, 1), Check.OUTSIDE);
    }
    for (int minutes : new int[] {0, 1000, -1, LEAST, MOST}) {
      refused("took(0, 0, 0, 0, " + minutes + ")", x -> x.took(0, 0, 0, 0, minutes), Check.OUTSIDE);
      refused("took(0, 0, 2, 0, " + minutes + "), OUTSIDE ahead of NOT", x -> x.took(0, 0, 2, 0, minutes), Check.OUTSIDE);
    }
    refused("took(0, 0, 2, 0, 1)", x -> x.took(0, 0, 2, 0, 1), Check.NOT);
    refused("took(0, 1, 0, 999, 999)", x -> x.took(0, 1, 0, 999, 999), Check.NOT);
    Check.says(27, "FULL (20)");
    Supplier<HasteRoads> full = () -> {
      HasteRoads x = rich();
      for (int i = 3; i <= 20; i++) Check.due("took, time " + i, x.took(0, 0, 0, 0, 21), i);
      return x;
    };
    Check.refused("the 21st", full, x -> x.took(1, 2, 1, 7, 3), Check.FULL);
    Check.refused("the 21st, NOT ahead of FULL", full, x -> x.took(0, 0, 2, 0, 1), Check.NOT);
    Check.refused("the 21st, OUTSIDE ahead of FULL", full, x -> x.took(0, 0, 0, 0, 1000), Check.OUTSIDE);
    Check.refused("the 21st, UNKNOWN ahead of FULL", full, x -> x.took(3, 0, 0, 0, 1), Check.UNKNOWN);
  }

  /** Promise 30. */
  private static void write() {
    Check.says(30, "UNKNOWN (the ROAD), OUTSIDE");
    for (int step : new int[] {30, 35, 95, 100, MOST}) refused("write(" + step + ")", x -> x.write(step), Check.UNKNOWN);
    for (int step : new int[] {36, 39, 96, 99}) {
      refused("write(" + step + "), UNKNOWN ahead of OUTSIDE", x -> x.write(step), Check.UNKNOWN);
    }
    for (int step : new int[] {-1, -3, 6, 9, 16, 26, 29, LEAST}) {
      refused("write(" + step + ")", x -> x.write(step), Check.OUTSIDE);
    }
    Check.says(30, "FULL (30)");
    Supplier<HasteRoads> full = () -> {
      HasteRoads x = rich();
      for (int i = 3; i <= 30; i++) Check.due("write(0), time " + i, x.write(0), i);
      return x;
    };
    for (int step : new int[] {-2, 0, 25}) Check.refused("the 31st: " + step, full, x -> x.write(step), Check.FULL);
    Check.refused("the 31st, OUTSIDE ahead of FULL", full, x -> x.write(6), Check.OUTSIDE);
    Check.refused("the 31st, UNKNOWN ahead of FULL", full, x -> x.write(30), Check.UNKNOWN);
  }

  /** Promise 32. */
  private static void judge() {
    Check.says(32, "UNKNOWN, OUTSIDE");
    for (int p : NO_PERSON) {
      refused("judge(" + p + ", 0)", x -> x.judge(p, 0), Check.UNKNOWN);
      refused("judge(" + p + ", 2), UNKNOWN ahead of OUTSIDE", x -> x.judge(p, 2), Check.UNKNOWN);
    }
    for (int what : new int[] {-1, 2, LEAST, MOST}) refused("judge(0, " + what + ")", x -> x.judge(0, what), Check.OUTSIDE);
  }

  /** Promises 33 to 35. */
  private static void images() {
    Check.says(33, "OUTSIDE");
    for (int v : new int[] {-1, LEAST}) refused("seed(" + v + ")", x -> x.seed(v), Check.OUTSIDE);
    for (int i : NO_IMAGE) {
      Check.says(34, "UNKNOWN");
      refused("keep(" + i + ")", x -> x.keep(i), Check.UNKNOWN);
      Check.says(35, "UNKNOWN");
      refused("goBack(" + i + ")", x -> x.goBack(i), Check.UNKNOWN);
    }
    Check.says(35, "NOT: it was not kept");
    refused("goBack(1)", x -> x.goBack(1), Check.NOT);
  }
}
