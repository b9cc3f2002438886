import java.math.BigInteger;

/** The edges of promises 9 to 15, sentence by sentence: the last that is taken, the first that is not. */
public final class DoneEdgesTest {
  private static final int LAST_SEED = 2147483647;

  public static void main(String[] args) {
    goSpends();
    goLeads();
    goHurries();
    goFull();
    awaitBounds();
    awaitMends();
    awaitFull();
    load();
    inn();
    clock();
    miles();
    driftTimes();
    driftDraws();
    driftWaits();
    driftGoes();
    driftLate();
    seedWraps();
    Check.end("DoneEdgesTest");
  }

  /** Promise 9: s from 0 to all its CALM. */
  private static void goSpends() {
    Check.says(9, "TO GO: CALM is s less, MINUTE so many more, it is at the other end");
    for (int calm = 0; calm <= 5; calm++) {
      for (int s = 0; s <= 6; s++) {
        HasteRoads x = Check.land("p0;p0;r0 1 2;m0 1 9 " + calm + " 99;");
        String call = "go(0, 0, " + s + ") with CALM " + calm;
        boolean taken = s <= calm;
        Check.due(call, x.go(0, 0, s), taken ? 11 - s : s > 5 ? Check.OUTSIDE : Check.NOT);
        Check.due(call + ": CALM", x.person(0, 3), taken ? calm - s : calm);
        Check.due(call + ": MINUTE", x.person(0, 6), taken ? 11 - s : 0);
        Check.due(call + ": PLACE", x.person(0, 0), taken ? 1 : 0);
      }
    }
    HasteRoads y = Check.land("p0;p0;r0 1 2;m0 1 9 5 99;");
    Check.due("go(0, 0, -1)", y.go(0, 0, -1), Check.OUTSIDE);
    Check.due("what is above the HURRY is spent too", spentInVain(), 0);
  }

  private static int spentInVain() {
    HasteRoads x = Check.land("p0;p0;r0 1 2;m0 1 1 5 99;");
    Check.due("HURRY 0 at least", x.go(0, 0, 5), 2);
    return x.person(0, 3);
  }

  /** Promise 9: both ways, and from its ends alone. */
  private static void goLeads() {
    Check.says(9, "NOT: the ROAD does not lead from where it is");
    HasteRoads x = Check.land("p0;p0;p0;r1 0 2;r1 2 2;m0 1 0 0 99;");
    Check.due("go(0, 1, 0) from 0", x.go(0, 1, 0), Check.NOT);
    Check.due("go(0, 0, 0) from its B", x.go(0, 0, 0), 2);
    Check.due("PLACE", x.person(0, 0), 1);
    Check.due("go(0, 0, 0) from its A", x.go(0, 0, 0), 4);
    Check.due("PLACE", x.person(0, 0), 0);
    x.go(0, 0, 0);
    Check.due("go(0, 1, 0) from 1", x.go(0, 1, 0), 8);
    Check.due("go(0, 0, 0) from 2", x.go(0, 0, 0), Check.NOT);
    Check.due("MINUTE", x.person(0, 6), 8);
  }

  private static int goneAt(int minute, String more) {
    HasteRoads x = Check.land("p0;p0;r0 1 4;m0 1 2 0 30;" + more);
    Check.await(x, 0, minute);
    return x.go(0, 0, 0) - minute;
  }

  /** Promise 9: HURRY of one who leaves a PLACE at its MINUTE. */
  private static void goHurries() {
    Check.says(9, "HURRY of one who leaves a PLACE at its MINUTE");
    Check.due("10 left", goneAt(20, ""), 8);
    Check.due("9 left", goneAt(21, ""), 10);
    Check.due("at T", goneAt(30, ""), 10);
    Check.due("late", goneAt(31, ""), 14);
    Check.due("the CLOCK where it leaves", goneAt(0, "c0;"), 10);
    Check.due("the CLOCK where it comes", goneAt(0, "c1;"), 8);
  }

  /** Promise 9: FULL. */
  private static void goFull() {
    Check.says(9, "FULL: MINUTE above 90000");
    HasteRoads x = Check.land("p0;p0;r0 1 20;m0 1 9 0 0;m0 1 0 0 0;c0;");
    x.load(0, 9);
    Check.await(x, 0, 90000);
    Check.due("go at 90000, the longest", x.go(0, 0, 0), 90240);
    Check.due("go at 90240", x.go(0, 0, 0), Check.FULL);
    Check.due("PLACE", x.person(0, 0), 1);
    Check.due("MINUTE", x.person(0, 6), 90240);
    Check.due("another one goes", x.go(1, 0, 0), 40);
  }

  /** Promise 10: n. */
  private static void awaitBounds() {
    Check.says(10, "TO WAIT n minutes (1 .. 999): its MINUTE then");
    HasteRoads x = Check.land("p0;m0 0 0 0 0;m0 0 0 0 0;");
    Check.due("await(0, 0)", x.await(0, 0), Check.OUTSIDE);
    Check.due("await(0, 1)", x.await(0, 1), 1);
    Check.due("await(0, 1000)", x.await(0, 1000), Check.OUTSIDE);
    Check.due("await(0, 999)", x.await(0, 999), 1000);
    Check.due("MINUTE", x.person(0, 6), 1000);
    Check.due("MINUTE of another one", x.person(1, 6), 0);
    Check.due("await(1, 2)", x.await(1, 2), 2);
  }

  /** Promise 10: CALM. */
  private static void awaitMends() {
    Check.says(10, "at an INN CALM is one more (5 at most)");
    for (int calm = 0; calm <= 5; calm++) {
      for (int n = 1; n <= 7; n++) {
        HasteRoads x = Check.land("p1;p0;m0 0 0 " + calm + " 0;m1 0 0 " + calm + " 0;");
        x.await(0, n);
        x.await(1, n);
        Check.due("CALM " + calm + ", " + n + " minutes at an INN", x.person(0, 3), Math.min(5, calm + n));
        Check.due("CALM " + calm + ", " + n + " minutes where there is none", x.person(1, 3), calm);
      }
    }
    HasteRoads y = Check.land("p1;m0 0 0 0 0;");
    y.await(0, 999);
    Check.due("999 minutes", y.person(0, 3), 5);
  }

  /** Promise 10: FULL. */
  private static void awaitFull() {
    Check.says(10, "FULL: MINUTE above 90000");
    HasteRoads x = Check.land("p1;p0;r0 1 1;m1 0 0 0 0;m0 0 0 0 0;");
    Check.await(x, 0, 89999);
    Check.due("await at 89999", x.await(0, 1), 90000);
    Check.due("await at 90000", x.await(0, 1), 90001);
    Check.due("await at 90001", x.await(0, 1), Check.FULL);
    Check.due("MINUTE", x.person(0, 6), 90001);
    Check.due("another one waits", x.await(1, 1), 1);
  }

  /** Promise 11. */
  private static void load() {
    Check.says(11, "LOAD becomes v (0 .. 9): what it was");
    HasteRoads x = Check.land("p0;m0 0 0 0 99;m0 0 0 0 99;");
    Check.due("load(0, 0), 0 at first", x.load(0, 0), 0);
    Check.due("load(0, 9)", x.load(0, 9), 0);
    Check.due("load(0, 10)", x.load(0, 10), Check.OUTSIDE);
    Check.due("load(0, -1)", x.load(0, -1), Check.OUTSIDE);
    Check.due("LOAD", x.person(0, 5), 9);
    Check.due("HURRY", x.person(0, 7), 9);
    Check.due("load(0, 0)", x.load(0, 0), 9);
    Check.due("LOAD", x.person(0, 5), 0);
    Check.due("LOAD of another one", x.load(1, 3), 0);
    Check.due("LOAD", x.person(0, 5), 0);
  }

  /** Promise 12. */
  private static void inn() {
    Check.says(12, "An INN is at a PLACE, or is not: 1 it was, 0 it was not");
    HasteRoads x = Check.land("p0;p0;p0;p0;p0;p1;");
    Check.due("inn(5, true), it is", x.inn(5, true), 1);
    Check.due("told(4)", x.told(4), 32);
    Check.due("inn(0, false), it is none", x.inn(0, false), 0);
    Check.due("told(4)", x.told(4), 32);
    Check.due("inn(0, true)", x.inn(0, true), 0);
    Check.due("told(4)", x.told(4), 33);
    Check.due("inn(5, false)", x.inn(5, false), 1);
    Check.due("told(4)", x.told(4), 1);
    Check.due("inn(6, true)", x.inn(6, true), Check.UNKNOWN);
    Check.due("inn(-1, true)", x.inn(-1, true), Check.UNKNOWN);
    Check.due("told(4)", x.told(4), 1);
    Check.due("told(5)", x.told(5), 0);
  }

  /** Promise 13. */
  private static void clock() {
    Check.says(13, "A CLOCK is at a PLACE, or is not: likewise");
    HasteRoads x = Check.land("p0;p0;p0;p0;p0;p0;c5;");
    Check.due("clock(5, true), it is", x.clock(5, true), 1);
    Check.due("told(5)", x.told(5), 32);
    Check.due("clock(0, false), it is none", x.clock(0, false), 0);
    Check.due("told(5)", x.told(5), 32);
    Check.due("clock(0, true)", x.clock(0, true), 0);
    Check.due("told(5)", x.told(5), 33);
    Check.due("clock(5, false)", x.clock(5, false), 1);
    Check.due("told(5)", x.told(5), 1);
    Check.due("clock(6, true)", x.clock(6, true), Check.UNKNOWN);
    Check.due("clock(-1, true)", x.clock(-1, true), Check.UNKNOWN);
    Check.due("told(5)", x.told(5), 1);
    Check.due("told(4)", x.told(4), 0);
  }

  /** Promise 14. */
  private static void miles() {
    Check.says(14, "Miles of a ROAD become v (1 .. 20): what they were");
    HasteRoads x = Check.land("p0;p0;r0 1 7;r0 1 8;m0 1 0 0 99;");
    Check.due("miles(0, 1)", x.miles(0, 1), 7);
    Check.due("miles(0, 0)", x.miles(0, 0), Check.OUTSIDE);
    Check.due("miles(0, 20)", x.miles(0, 20), 1);
    Check.due("miles(0, 21)", x.miles(0, 21), Check.OUTSIDE);
    Check.due("road(0, 2)", x.road(0, 2), 20);
    Check.due("road(1, 2), another one", x.road(1, 2), 8);
    Check.due("go by it", x.go(0, 0, 0), 20);
  }

  private static int draw(BigInteger[] seed, int n) {
    seed[0] = seed[0].multiply(BigInteger.valueOf(1103515245)).add(BigInteger.valueOf(12345)).mod(BigInteger.TWO.pow(31));
    return seed[0].intValueExact() / 65536 % n;
  }

  private static BigInteger[] seedOf(int v) {
    return new BigInteger[] {BigInteger.valueOf(v)};
  }

  /** Promise 15: n. */
  private static void driftTimes() {
    Check.says(15, "BY DRAWS, n times (1 .. 99): the greatest MINUTE of all");
    HasteRoads x = Check.land("p0;m0 0 0 0 0;");
    Check.due("drift(0)", x.drift(0), Check.OUTSIDE);
    Check.due("drift(1)", x.drift(1), 1);
    Check.due("drift(100)", x.drift(100), Check.OUTSIDE);
    Check.due("drift(99)", x.drift(99), 100);
    BigInteger[] seed = seedOf(0);
    for (int i = 0; i < 200; i++) draw(seed, 1);
    Check.due("two DRAWS each time", x.seed(0), seed[0].intValueExact());
    HasteRoads y = Check.land("p0;m0 0 0 0 0;m0 0 0 0 0;");
    y.await(1, 500);
    Check.due("the greatest of all, not of who was drawn", y.drift(1) / 500, 1);
    Check.due("both together", y.person(0, 6) + y.person(1, 6), 501);
    Check.says(15, "NOT: no PERSONS");
    HasteRoads none = Check.land("p0;p0;r0 1 1;");
    none.seed(9);
    Check.due("drift(1)", none.drift(1), Check.NOT);
    Check.due("drift(0)", none.drift(0), Check.OUTSIDE);
    Check.due("THE SEED", none.seed(0), 9);
  }

  /** Promise 15: whom each DRAW means, over many seeds. */
  private static void driftDraws() {
    Check.says(15, "a DRAW of PERSONS; a DRAW of how many ROADS lead from its PLACE and 1; s a DRAW of its CALM and 1");
    for (int first = 0; first < 60; first++) {
      int v = first * 35000011;
      HasteRoads x = Check.land("p1;p0;p0;r1 2 3;r0 1 5;r2 0 4;r1 0 6;m0 1 3 5 99;m1 2 0 2 99;m2 0 9 0 99;");
      x.seed(v);
      BigInteger[] seed = seedOf(v);
      int p = draw(seed, 3);
      int place = x.person(p, 0);
      int calm = x.person(p, 3);
      int[][] ways = {{1, 2, 3}, {0, 1, 3}, {0, 2}};
      int way = draw(seed, ways[place].length + 1);
      boolean waits = way == ways[place].length;
      int s = waits ? 0 : draw(seed, calm + 1);
      int minute = waits ? 1 : x.takes(p, ways[place][way], place, 0, s);
      Check.due("drift(1) from " + v, x.drift(1), minute);
      Check.due("its MINUTE", x.person(p, 6), minute);
      Check.due("its CALM", x.person(p, 3), waits && place == 0 ? Math.min(5, calm + 1) : calm - s);
      Check.due("THE SEED", x.seed(0), seed[0].intValueExact());
    }
  }

  /** Promise 15: where no ROAD leads from, the one DRAW is the last. */
  private static void driftWaits() {
    Check.says(15, "the last: it waits a minute");
    HasteRoads x = Check.land("p1;p0;p0;r1 2 3;m0 1 3 3 99;");
    Check.due("drift(1)", x.drift(1), 1);
    Check.due("CALM at an INN", x.person(0, 3), 4);
    Check.due("drift(2)", x.drift(2), 3);
    Check.due("CALM 5 at most", x.person(0, 3), 5);
    Check.due("PLACE", x.person(0, 0), 0);
  }

  /** Promise 15: with no CALM there is still the DRAW of 1. */
  private static void driftGoes() {
    Check.says(15, "with s a DRAW of its CALM and 1 (CALM 0)");
    HasteRoads x = Check.land("p0;p0;" + "r0 1 2;".repeat(9) + "m0 1 0 0 99;");
    BigInteger[] seed = seedOf(0);
    int minute = 0;
    for (int i = 0; i < 30; i++) {
      draw(seed, 1);
      boolean waits = draw(seed, 10) == 9;
      if (!waits) draw(seed, 1);
      minute += waits ? 1 : 2;
      if (minute > 80) break;
      Check.due("drift(1)", x.drift(1), minute);
    }
    Check.due("CALM", x.person(0, 3), 0);
  }

  /** Promise 15: 9000 is the last MINUTE at which anything is done. */
  private static void driftLate() {
    Check.says(15, "nobody whose MINUTE is above 9000 does anything but the DRAW of PERSONS");
    HasteRoads at = Check.land("p0;m0 0 0 0 0;");
    Check.await(at, 0, 9000);
    Check.due("drift(1) at 9000", at.drift(1), 9001);
    int two = at.seed(0);
    BigInteger[] seed = seedOf(0);
    draw(seed, 1);
    draw(seed, 1);
    Check.due("THE SEED, two DRAWS", two, seed[0].intValueExact());
    Check.due("drift(1) at 9001", at.drift(1), 9001);
    Check.due("THE SEED, one DRAW", at.seed(0), 12345);
    Check.due("drift(99) at 9001", at.drift(99), 9001);
    Check.due("CALM", at.person(0, 3), 0);
    Check.due("await goes on", at.await(0, 1), 9002);
  }

  /** Promises 15 and 33: THE SEED is left over by 2 to the 31. */
  private static void seedWraps() {
    Check.says(15, "each DRAW it becomes it times 1103515245 and 12345, left over by 2 to the 31");
    for (int v : new int[] {0, 1, 2, 65535, 65536, 1073741823, 1073741824, LAST_SEED - 1, LAST_SEED}) {
      HasteRoads x = Check.land("p0;m0 0 0 0 0;");
      Check.await(x, 0, 9001);
      x.seed(v);
      x.drift(1);
      BigInteger[] seed = seedOf(v);
      draw(seed, 1);
      Check.due("THE SEED behind " + v, x.seed(0), seed[0].intValueExact());
    }
    Check.says(15, "the DRAW of n is it / 65536, left over by n");
    for (int v = 0; v < 40; v++) {
      HasteRoads x = Check.land("p0;m0 0 0 0 0;m0 0 0 0 0;m0 0 0 0 0;m0 0 0 0 0;");
      x.seed(v * 53000003);
      BigInteger[] seed = seedOf(v * 53000003);
      int p = draw(seed, 4);
      x.drift(1);
      for (int other = 0; other < 4; other++) Check.due("MINUTE of " + other, x.person(other, 6), other == p ? 1 : 0);
    }
  }
}
