/** The edges of promises 16 to 26, sentence by sentence; each land is small enough to be worked out by hand. */
public final class TriedEdgesTest {
  public static void main(String[] args) {
    soonestOwn();
    soonestNone();
    soonestSpends();
    soonestWaits();
    soonestHurries();
    stepBounds();
    stepRows();
    stepLikeOnes();
    latestUpToT();
    latestOwn();
    latestAtT();
    latestCalm();
    innsFewest();
    innsLeastSet();
    innsInPlace();
    innsByT();
    relayMinutes();
    relayNone();
    relayMany();
    meetGreater();
    meetLikeOnes();
    meetNone();
    cost();
    shorterMiles();
    shorterLikeOnes();
    shorterNone();
    lendBounds();
    lendFive();
    lendNone();
    guardNow();
    guardTurns();
    guardNone();
    roundSets();
    roundWhereItIs();
    roundNone();
    roundMends();
    asItIsNow();
    fullLand();
    smallerLand();
    nothingChanges();
    Check.end("TriedEdgesTest");
  }

  /** Promise 16: its own PLACE. */
  private static void soonestOwn() {
    Check.says(16, "SOONEST: the least MINUTE at which one can be at a PLACE (its own: now)");
    HasteRoads x = Check.land("p1;p0;r0 1 1;m0 1 9 5 0;");
    Check.due("now is 0", x.soonest(0, 0), 0);
    x.await(0, 1);
    Check.due("now is 1", x.soonest(0, 0), 1);
    Check.await(x, 0, 89999);
    x.await(0, 999);
    Check.due("now is 90999", x.soonest(0, 0), 90999);
    Check.due("one goes on from there", x.soonest(0, 1), 90999 + 5);
    Check.due("behind going: no more than now", x.go(0, 0, 0), Check.FULL);
  }

  /** Promise 16: NONE. */
  private static void soonestNone() {
    Check.says(16, "NONE: no ROADS lead there");
    HasteRoads x = Check.land("p1;p0;p0;p0;p0;p0;r0 1 1;r1 2 1;r3 4 1;m0 0 0 0 99;m5 5 0 0 99;");
    int[] first = {0, 1, 2, Check.NONE, Check.NONE, Check.NONE};
    int[] second = {Check.NONE, Check.NONE, Check.NONE, Check.NONE, Check.NONE, 0};
    for (int at = 0; at <= 5; at++) {
      Check.due("soonest(0, " + at + ")", x.soonest(0, at), first[at]);
      Check.due("soonest(1, " + at + ")", x.soonest(1, at), second[at]);
    }
    Check.due("soonest(1, 6)", x.soonest(1, 6), Check.UNKNOWN);
    Check.due("soonest(2, 5)", x.soonest(2, 5), Check.UNKNOWN);
    Check.due("one PLACE alone", Check.land("p0;m0 0 0 0 0;").soonest(0, 0), 0);
  }

  /** Promise 16: s from 0 to all its CALM. */
  private static void soonestSpends() {
    Check.says(16, "by going: s 0 to its CALM");
    for (int calm = 0; calm <= 5; calm++) {
      HasteRoads x = Check.land("p0;p0;r0 1 2;m0 1 9 " + calm + " 99;");
      Check.due("CALM " + calm, x.soonest(0, 1), 11 - calm);
    }
    for (int haste = 0; haste <= 5; haste++) {
      HasteRoads x = Check.land("p0;p0;r0 1 2;m0 1 " + haste + " 5 99;");
      Check.due("HASTE " + haste + ", HURRY 0 at least", x.soonest(0, 1), 2);
    }
    Check.due("shared by two ROADS", Check.land("p0;p0;p0;r0 1 4;r1 2 4;m0 2 3 5 99;").soonest(0, 2), 10);
    Check.due("where a mile is longest", Check.land("p0;p0;p0;r0 1 4;r1 2 20;m0 2 3 3 99;").soonest(0, 2), 30);
  }

  /** Promise 16: waiting mends CALM at INNS, 5 at most, and is of no use elsewhere. */
  private static void soonestWaits() {
    Check.says(16, "by going and waiting (at an INN CALM is one more, 5 at most)");
    for (int calm = 0; calm <= 5; calm++) {
      HasteRoads x = Check.land("p1;p0;r0 1 20;m0 1 9 " + calm + " 999;");
      Check.due("CALM " + calm + ": 5 at most", x.soonest(0, 1), 5 - calm + 60);
      x.inn(0, false);
      Check.due("CALM " + calm + ": no INN", x.soonest(0, 1), 110 - 10 * calm);
    }
    Check.due("an INN where it comes is of no use", Check.land("p0;p1;r0 1 20;m0 1 9 0 999;").soonest(0, 1), 110);
    Check.due("a mile is not worth a minute", Check.land("p1;p0;r0 1 1;m0 1 9 0 999;").soonest(0, 1), 6);
    Check.due("twice at one INN", Check.land("p1;p0;r0 1 20;r0 1 20;m1 1 9 0 999;").soonest(0, 0), 110);
  }

  private static int soonestAt(int minute) {
    HasteRoads x = Check.land("p0;p0;r0 1 4;m0 1 2 0 30;");
    Check.await(x, 0, minute);
    return x.soonest(0, 1) - minute;
  }

  /** Promise 16: HURRY as it is at each MINUTE of the way. */
  private static void soonestHurries() {
    Check.says(16, "TRIED from its MINUTE: fewer than 10 left, late already");
    Check.due("10 left", soonestAt(20), 8);
    Check.due("9 left", soonestAt(21), 10);
    Check.due("none left", soonestAt(30), 10);
    Check.due("late", soonestAt(31), 14);
    Check.due("9 left on the way", Check.land("p0;p0;p0;r0 1 4;r1 2 4;m0 2 2 0 17;").soonest(0, 2), 18);
    Check.due("10 left on the way", Check.land("p0;p0;p0;r0 1 4;r1 2 4;m0 2 2 0 18;").soonest(0, 2), 16);
    Check.due("late on the way", Check.land("p0;p0;p0;r0 1 4;r1 2 4;m0 2 2 0 9;").soonest(0, 2), 24);
    Check.due("at T on the way", Check.land("p0;p0;p0;r0 1 4;r1 2 4;m0 2 2 0 10;").soonest(0, 2), 18);
    HasteRoads x = Check.land("p0;p0;r0 1 4;m0 1 2 0 99;");
    x.load(0, 9);
    Check.due("with a LOAD", x.soonest(0, 1), 26);
    x.clock(0, true);
    Check.due("and a CLOCK where it leaves", x.soonest(0, 1), 28);
    x.clock(1, true);
    Check.due("and a CLOCK where it comes", x.soonest(0, 1), 28);
  }

  private static void steps(String text, int... row) {
    HasteRoads x = Check.land(text);
    for (int i = 0; i < row.length; i++) Check.due("step(0, " + i + ") of " + text, x.step(0, i), row[i]);
    for (int i = row.length; i <= row.length + 2; i++) Check.due("step(0, " + i + ") of " + text, x.step(0, i), Check.NONE);
  }

  /** Promise 17: i. */
  private static void stepBounds() {
    Check.says(17, "OUTSIDE (i 0 .. 99)");
    HasteRoads x = Check.land("p0;p0;r0 1 4;m0 1 2 0 30;");
    Check.due("step(0, -1)", x.step(0, -1), Check.OUTSIDE);
    Check.due("step(0, 0)", x.step(0, 0), 0);
    Check.due("step(0, 99)", x.step(0, 99), Check.NONE);
    Check.due("step(0, 100)", x.step(0, 100), Check.OUTSIDE);
    Check.due("step(1, 100)", x.step(1, 100), Check.UNKNOWN);
    Check.says(17, "NONE (never there)");
    HasteRoads never = Check.land("p0;p0;m0 1 2 0 30;");
    Check.due("step(0, 0)", never.step(0, 0), Check.NONE);
    Check.due("step(0, 99)", never.step(0, 99), Check.NONE);
    Check.due("step(0, 100)", never.step(0, 100), Check.OUTSIDE);
  }

  /** Promise 17: how many. */
  private static void stepRows() {
    Check.says(17, "STEP i: -2 waiting a minute, else 10 times the ROAD and s; NONE: not so many");
    steps("p1;m0 0 9 0 0;");
    steps("p0;p0;r0 1 4;m0 1 2 0 30;", 0);
    steps("p0;p0;r0 1 4;m0 1 2 2 30;", 2);
    steps("p0;p0;r0 1 4;m0 1 9 5 30;", 5);
    steps("p1;p0;r0 1 20;m0 1 9 4 999;", -2, 5);
    steps("p1;p0;r0 1 20;m0 1 9 5 999;", 5);
    steps("p0;p1;r0 1 7;m1 0 1 0 15;", -2, 1);
    steps("p1;p1;r0 1 3;m1 0 1 1 8;", -2, 2);
    steps("p0;p0;" + "r0 1 20;".repeat(8) + "r0 1 4;m0 1 9 5 99;", 85);
    // a ring of six: five ROADS by one end, one by the other
    steps("p0;p0;p0;p0;p0;p0;r0 1 1;r1 2 1;r2 3 1;r3 4 1;r4 5 1;r5 0 20;m0 5 0 0 999;", 0, 10, 20, 30, 40);
    // two INNS, five minutes at each: 5, 60 and 5, 60 rather than 220
    steps("p1;p1;p0;r0 1 20;r1 2 20;m0 2 9 0 999;", -2, -2, -2, -2, -2, 5, -2, -2, -2, -2, -2, 15);
    HasteRoads x = Check.land("p1;p0;r0 1 20;m0 1 9 4 999;");
    x.await(0, 1);
    Check.due("from now on", x.step(0, 0), 5);
    x.go(0, 0, 5);
    Check.due("there", x.step(0, 0), Check.NONE);
  }

  /** Promise 17: the first row of like ones. */
  private static void stepLikeOnes() {
    Check.says(17, "of like ones the first row: waiting ahead of going");
    steps("p1;p0;r0 1 2;m0 1 1 0 999;", -2, 1);
    steps("p1;p0;r0 1 2;m0 1 5 0 999;", -2, -2, -2, -2, -2, 5);
    steps("p0;p0;r0 1 2;m0 1 1 0 999;", 0);
    // the first minute at the INN saves none, the second one would
    steps("p1;p0;r0 1 1;m0 1 8 0 999;", 0);
    Check.says(17, "STEPS of one who is late, or comes to be late on the way");
    steps("p0;p0;p0;r0 1 4;r1 2 4;m0 2 2 0 9;", 0, 10);
    steps("p0;p0;p0;r0 1 4;r1 2 4;m0 2 2 0 10;", 0, 10);
    steps("p0;p0;p0;r0 1 4;r1 2 4;m0 2 2 0 11;", 0, 10);
    // 3 spent ahead of 2, so that it leaves 1 at minute 8 and not, late, at 10
    steps("p1;p0;p0;r0 1 4;r1 2 4;m0 2 2 1 9;", -2, -2, -2, -2, 3, 12);
    Check.says(17, "of like ones the first row: the lesser ROAD");
    steps("p0;p0;r0 1 2;r0 1 2;m0 1 1 0 999;", 0);
    steps("p0;p0;r0 1 3;r0 1 2;r1 0 2;m0 1 1 0 999;", 10);
    steps("p0;p0;p0;p0;r0 2 2;r0 1 2;r1 3 2;r2 3 2;m0 3 0 0 999;", 0, 30);
    Check.says(17, "of like ones the first row: the lesser s");
    steps("p0;p0;r0 1 4;m0 1 2 5 999;", 2);
    steps("p0;p0;r0 1 1;m0 1 2 1 999;", 0);
    steps("p0;p0;r0 1 1;m0 1 3 1 999;", 1);
    steps("p0;p0;p0;r0 1 4;r1 2 4;m0 2 1 1 999;", 0, 11);
    steps("p0;p0;p0;r0 1 4;r1 2 4;m0 2 2 3 999;", 1, 12);
    Check.says(17, "the lesser ROAD ahead of the lesser s");
    steps("p0;p0;r0 1 4;r0 1 2;m0 1 0 0 999;", 10);
    // at 6 by 4 miles with HURRY 1, or by three times a mile with HURRY 2 (1 does not shorten it)
    steps("p0;p0;p0;p0;r0 3 4;r0 1 1;r1 2 1;r2 3 1;m0 3 2 1 999;", 1);
    steps("p0;p0;r0 1 3;r0 1 2;m0 1 1 1 999;", 11);
  }

  /** Promise 18: not more than T. */
  private static void latestUpToT() {
    Check.says(18, "LATEST: the greatest MINUTE up to T");
    Check.due("there, T 0", Check.land("p0;m0 0 0 0 0;").latest(0), 0);
    Check.due("there, T 999", Check.land("p0;m0 0 9 0 999;").latest(0), 999);
    Check.due("there, at an INN", Check.land("p1;m0 0 9 0 57;").latest(0), 57);
    Check.due("T 0, a ROAD", Check.land("p0;p0;r0 1 1;m0 1 0 0 0;").latest(0), Check.NONE);
  }

  /** Promise 18: not less than its own MINUTE. */
  private static void latestOwn() {
    Check.says(18, "not less than its own; NONE");
    HasteRoads x = Check.land("p0;p0;r0 1 4;m0 1 0 0 30;m0 0 0 0 30;m1 0 0 0 999;");
    Check.due("6 minutes with 9 left", x.latest(0), 24);
    Check.await(x, 0, 24);
    Check.due("at 24", x.latest(0), 24);
    Check.await(x, 0, 1);
    Check.due("at 25", x.latest(0), Check.NONE);
    Check.await(x, 1, 29);
    Check.due("there at 29", x.latest(1), 30);
    Check.await(x, 1, 1);
    Check.due("there at T", x.latest(1), 30);
    Check.await(x, 1, 1);
    Check.due("there, late", x.latest(1), Check.NONE);
    Check.due("never", Check.land("p0;p0;m0 1 0 0 999;").latest(0), Check.NONE);
    Check.await(x, 2, 90000);
    Check.due("far behind T", x.latest(2), Check.NONE);
    Check.due("latest(3)", x.latest(3), Check.UNKNOWN);
  }

  /** Promise 18: T is in time, T and 1 is not; HURRY changes where 10 are left. */
  private static void latestAtT() {
    Check.says(18, "be at its ERRAND at T or sooner");
    Check.due("at T just", Check.land("p0;p0;r0 1 10;m0 1 0 0 10;").latest(0), 0);
    Check.due("one too late", Check.land("p0;p0;r0 1 10;m0 1 0 0 9;").latest(0), Check.NONE);
    Check.due("10 miles with 10 left", Check.land("p0;p0;r0 1 10;m0 1 0 0 30;").latest(0), 20);
    Check.due("9 miles, 14 with 9 left", Check.land("p0;p0;r0 1 9;m0 1 0 0 30;").latest(0), 20);
    Check.due("6 miles, 9 with 9 left", Check.land("p0;p0;r0 1 6;m0 1 0 0 30;").latest(0), 21);
    Check.due("7 miles, 11 with 9 left", Check.land("p0;p0;r0 1 7;m0 1 0 0 30;").latest(0), 20);
    Check.due("11 miles", Check.land("p0;p0;r0 1 11;m0 1 0 0 30;").latest(0), 19);
    Check.due("1 mile, 2 minutes", Check.land("p0;p0;r0 1 1;m0 1 0 0 30;").latest(0), 28);
    Check.due("the ERRAND at PLACE 0", Check.land("p0;p0;r0 1 1;m1 0 0 0 30;").latest(0), 28);
    Check.due("by PLACE 0", Check.land("p0;p0;p0;r0 1 1;r0 2 1;m1 2 0 0 30;").latest(0), 26);
  }

  /** Promise 18: CALM as now. */
  private static void latestCalm() {
    Check.says(18, "to which one can stay where it is (CALM as now)");
    // waiting behind the stay mends it: 5 waited, 8; or spent at once
    Check.due("CALM 0 at an INN", Check.land("p1;p0;r0 1 8;m0 1 5 0 50;").latest(0), 37 - 2);
    Check.due("CALM 5 at an INN", Check.land("p1;p0;r0 1 8;m0 1 5 5 50;").latest(0), 40);
    Check.due("CALM 5, no INN", Check.land("p0;p0;r0 1 8;m0 1 5 5 50;").latest(0), 40);
    Check.due("CALM 0, no INN", Check.land("p0;p0;r0 1 8;m0 1 5 0 50;").latest(0), 22);
    // 9 left at 6: 2 waited, 7; one later it is one too late
    Check.due("the ERRAND at PLACE 0, CALM 0", Check.land("p0;p1;r0 1 7;m1 0 1 0 15;").latest(0), 6);
    Check.due("the ERRAND at PLACE 0, CALM 1", Check.land("p1;p1;r0 1 3;m1 0 1 1 8;").latest(0), 4);
    HasteRoads x = Check.land("p1;p0;r0 1 8;m0 1 5 0 50;");
    x.await(0, 5);
    Check.due("CALM as it is behind 5 minutes", x.latest(0), 40);
  }

  /** Promise 19: how many. */
  private static void innsFewest() {
    Check.says(19, "INNS: the fewest PLACES with an INN by which all are at their ERRANDS by T");
    Check.due("none is needed", Check.land("p0;p0;r0 1 20;m0 1 9 0 110;").inns(0), 0);
    Check.due("none is needed, the SET", Check.land("p0;p0;r0 1 20;m0 1 9 0 110;").inns(1), 0);
    Check.due("one is needed", Check.land("p0;p0;r0 1 20;m0 1 9 0 109;").inns(0), 1);
    Check.due("one is needed, the SET", Check.land("p0;p0;r0 1 20;m0 1 9 0 109;").inns(1), 1);
    String four = "p0;p0;p0;p0;p0;p0;r0 5 20;r1 5 20;r2 5 20;r3 5 20;m0 5 9 0 80;m1 5 9 0 80;m2 5 9 0 80;m3 5 9 0 80;";
    Check.due("four", Check.land(four).inns(0), 4);
    Check.due("four, the SET", Check.land(four).inns(1), 15);
    String five = "p0;p0;p0;p0;p0;p0;r0 1 20;r1 2 20;r2 3 20;r3 4 20;r4 5 20;m0 5 9 0 325;";
    Check.due("five", Check.land(five).inns(0), 5);
    Check.due("five, the SET", Check.land(five).inns(1), 31);
    Check.due("nobody", Check.land("p1;p1;r0 1 20;").inns(0), 0);
    Check.due("nobody, the SET", Check.land("p1;p1;r0 1 20;").inns(1), 0);
    Check.due("what 2", Check.land("p1;p1;").inns(2), Check.OUTSIDE);
    Check.due("what -1", Check.land("p1;p1;").inns(-1), Check.OUTSIDE);
  }

  /** Promise 19: which. */
  private static void innsLeastSet() {
    Check.says(19, "of like ones the least SET of PLACES");
    // an INN at 0 or at 1 or at 2 does: the ROADS between are of 1 mile
    String row = "p0;p0;p0;p0;r2 1 1;r1 0 1;r0 3 20;m2 3 9 0 110;";
    Check.due("one of three", Check.land(row).inns(0), 1);
    Check.due("the least of them", Check.land(row).inns(1), 1);
    // 20 miles from each of 1, 2, and one of them is enough only for its own
    String pair = "p0;p0;p0;p0;r1 0 20;r2 0 20;m1 0 9 0 80;m2 0 9 0 80;";
    Check.due("two", Check.land(pair).inns(0), 2);
    Check.due("the SET of 1 and 2", Check.land(pair).inns(1), 6);
    // one INN at 3, SET 8, is fewer than two at 0 and 1, SET 3
    String fewer = "p0;p0;p0;p0;p0;r0 3 1;r1 3 1;r3 4 20;m0 4 9 0 80;m1 4 9 0 80;";
    Check.due("the fewest ahead of the least SET", Check.land(fewer).inns(1), 8);
  }

  /** Promise 19: those that there are do not count. */
  private static void innsInPlace() {
    Check.says(19, "(in place of those that there are)");
    HasteRoads x = Check.land("p1;p1;p1;r0 1 20;m0 1 9 0 109;");
    Check.due("how many", x.inns(0), 1);
    Check.due("the SET", x.inns(1), 1);
    x.inn(0, false);
    Check.due("how many, whatever there are", x.inns(0), 1);
    Check.due("the SET, whatever there are", x.inns(1), 1);
    Check.due("told(4)", x.told(4), 6);
    Check.due("none is needed where all are", Check.land("p1;p1;m0 0 0 0 0;").inns(1), 0);
  }

  /** Promise 19: T, and NONE. */
  private static void innsByT() {
    Check.says(19, "by T; NONE");
    Check.due("with one just at T", Check.land("p0;p0;r0 1 20;m0 1 9 0 65;").inns(0), 1);
    Check.due("one minute later than T", Check.land("p0;p0;r0 1 20;m0 1 9 0 64;").inns(0), Check.NONE);
    Check.due("one minute later than T, the SET", Check.land("p0;p0;r0 1 20;m0 1 9 0 64;").inns(1), Check.NONE);
    Check.due("no ROAD", Check.land("p0;p0;m0 1 0 0 999;").inns(0), Check.NONE);
    Check.due("one of two is never there", Check.land("p0;p0;m0 0 0 0 999;m0 1 0 0 999;").inns(1), Check.NONE);
    HasteRoads x = Check.land("p0;m0 0 0 0 5;");
    x.await(0, 5);
    Check.due("there at T", x.inns(0), 0);
    x.await(0, 1);
    Check.due("there, late", x.inns(0), Check.NONE);
  }

  /** Promise 20: minutes. */
  private static void relayMinutes() {
    Check.says(20, "a message is at a PLACE at minute 0; their MINUTES are not looked at");
    HasteRoads x = Check.land("p0;p0;p0;r0 1 4;r1 2 4;m0 0 2 0 18;m1 0 2 0 17;");
    Check.due("relay(0, 1, 0)", x.relay(0, 1, 0), 8);
    // who brought it has 10 minutes left at 1, the other one 9
    Check.due("relay(0, 2, 0)", x.relay(0, 2, 0), 16);
    Check.due("relay(0, 2, 1)", x.relay(0, 2, 1), 1);
    x.await(0, 999);
    x.await(1, 999);
    Check.due("whatever their MINUTES are", x.relay(0, 2, 0), 16);
    x.load(0, 9);
    Check.due("LOAD as now", x.relay(0, 1, 0), 26);
    x.go(0, 0, 0);
    Check.due("who has gone does not carry it", x.relay(0, 1, 0), Check.NONE);
    HasteRoads y = Check.land("p1;p0;r0 1 20;m0 0 9 0 999;");
    Check.due("it may wait at an INN", y.relay(0, 1, 0), 65);
    y.await(0, 5);
    Check.due("CALM as now", y.relay(0, 1, 0), 60);
    Check.says(20, "what = 0 the minute, 1 by how many. UNKNOWN, OUTSIDE");
    Check.due("what 1", y.relay(0, 1, 1), 1);
    Check.due("what 2", y.relay(0, 1, 2), Check.OUTSIDE);
    Check.due("what -1", y.relay(0, 1, -1), Check.OUTSIDE);
    Check.due("one PLACE twice", y.relay(0, 0, 0), Check.UNKNOWN);
  }

  /** Promise 20: NONE. */
  private static void relayNone() {
    Check.says(20, "NONE");
    HasteRoads x = Check.land("p0;p0;p0;r0 1 4;m0 0 2 0 99;");
    Check.due("nobody is where it is", x.relay(1, 0, 0), Check.NONE);
    Check.due("nobody is where it is, by how many", x.relay(1, 0, 1), Check.NONE);
    Check.due("no ROADS lead there", x.relay(0, 2, 0), Check.NONE);
    Check.due("no ROADS lead there, by how many", x.relay(0, 2, 1), Check.NONE);
    Check.due("nobody at all", Check.land("p0;p0;r0 1 4;").relay(0, 1, 0), Check.NONE);
  }

  /** Promise 20: by how many. */
  private static void relayMany() {
    Check.says(20, "as often as may be by another one; by how many it is carried at least then");
    String row = "p0;p0;p0;p0;p0;r0 1 10;r1 2 10;r2 3 10;r3 4 10;m0 0 8 0 999;m1 0 6 0 999;m2 0 4 0 999;m3 0 2 0 999;";
    HasteRoads x = Check.land(row);
    Check.due("by four: 50, 40, 30, 20", x.relay(0, 4, 0), 140);
    Check.due("by four", x.relay(0, 4, 1), 4);
    Check.due("back by one", x.relay(3, 0, 0), 60);
    Check.due("back by one, how many", x.relay(3, 0, 1), 1);
    HasteRoads like = Check.land("p0;p0;p0;r0 1 10;r1 2 10;m0 0 2 0 999;m1 0 2 0 999;m0 0 2 0 999;");
    Check.due("like ones: the minute", like.relay(0, 2, 0), 40);
    Check.due("like ones: one alone", like.relay(0, 2, 1), 1);
    // at 30 by three (4, 10, 30) and by two (20, 30), the lesser PLACES first and last
    HasteRoads ways = Check.land("p0;p0;p0;p0;p0;r0 1 2;r1 2 4;r0 3 10;r2 4 20;r3 4 10;"
        + "m0 0 2 0 999;m1 0 1 0 999;m2 0 0 0 999;m3 0 0 0 999;");
    Check.due("two ways: the minute", ways.relay(0, 4, 0), 30);
    Check.due("two ways: by how many at least", ways.relay(0, 4, 1), 2);
    HasteRoads slow = Check.land("p0;p0;r0 1 10;m0 0 9 0 999;m0 0 2 0 999;");
    Check.due("the better of two", slow.relay(0, 1, 0), 20);
  }

  /** Promise 21: the greater of both. */
  private static void meetGreater() {
    Check.says(21, "MEET: the least minute by which both can be there (the greater of both SOONEST)");
    HasteRoads x = Check.land("p0;p0;r0 1 10;m0 0 0 0 999;m0 0 0 0 999;m1 1 0 0 999;");
    Check.due("at one PLACE", x.meet(0, 1, 0), 0);
    x.await(0, 5);
    Check.due("at one PLACE, one of them later", x.meet(0, 1, 0), 5);
    Check.due("the other way round", x.meet(1, 0, 0), 5);
    Check.due("the PLACE", x.meet(0, 1, 1), 0);
    Check.due("who is later stays: the minute", x.meet(0, 2, 0), 10);
    Check.due("who is later stays: the PLACE", x.meet(0, 2, 1), 0);
    x.await(2, 20);
    Check.due("the other one is later: the minute", x.meet(0, 2, 0), 20);
    Check.due("the other one is later: the PLACE", x.meet(0, 2, 1), 1);
    Check.says(21, "what = 0 the minute, 1 the PLACE. UNKNOWN, OUTSIDE");
    Check.due("what 2", x.meet(0, 2, 2), Check.OUTSIDE);
    Check.due("what -1", x.meet(0, 2, -1), Check.OUTSIDE);
    Check.due("one PERSON twice", x.meet(2, 2, 0), Check.UNKNOWN);
    Check.due("meet(0, 3, 0)", x.meet(0, 3, 0), Check.UNKNOWN);
  }

  /** Promise 21: the least PLACE. */
  private static void meetLikeOnes() {
    Check.says(21, "of like ones the least PLACE");
    HasteRoads x = Check.land("p0;p0;p0;p0;r3 1 4;r1 2 4;r3 0 4;r0 2 4;m3 3 0 0 999;m2 2 0 0 999;");
    Check.due("at 0 or 1: the minute", x.meet(0, 1, 0), 4);
    Check.due("at 0 or 1: the PLACE", x.meet(0, 1, 1), 0);
    x.miles(2, 5);
    Check.due("at 1: the PLACE", x.meet(0, 1, 1), 1);
    HasteRoads last = Check.land("p0;p0;p0;p0;p0;p0;r4 5 4;r3 5 4;m4 4 0 0 999;m3 3 0 0 999;");
    Check.due("the last PLACE", last.meet(0, 1, 1), 5);
  }

  /** Promise 21: NONE. */
  private static void meetNone() {
    Check.says(21, "NONE");
    HasteRoads x = Check.land("p0;p0;p0;p0;r0 1 4;r2 3 4;m0 0 0 0 99;m3 3 0 0 99;");
    Check.due("the minute", x.meet(0, 1, 0), Check.NONE);
    Check.due("the PLACE", x.meet(0, 1, 1), Check.NONE);
  }

  /** Promise 22. */
  private static void cost() {
    Check.says(22, "COST of a CLOCK at a PLACE: how much later all are at their ERRANDS together");
    HasteRoads x = Check.land("p0;p0;p0;r0 1 10;r1 2 4;m0 2 2 0 999;m1 0 2 0 999;m1 2 2 0 999;c1;");
    Check.due("one leaves it", x.cost(0), 5);
    Check.due("all leave it, one CLOCK there is", x.cost(1), 2 + 5 + 2);
    Check.due("nobody leaves it", x.cost(2), 0);
    x.clock(1, false);
    Check.due("none there is, likewise", x.cost(1), 9);
    Check.due("cost(3)", x.cost(3), Check.UNKNOWN);
    Check.due("cost(-1)", x.cost(-1), Check.UNKNOWN);
    Check.due("nobody goes", Check.land("p0;m0 0 9 0 0;").cost(0), 0);
    Check.due("nobody is", Check.land("p0;").cost(0), 0);
    Check.due("by another way", Check.land("p0;p0;p0;r0 2 10;r0 1 4;r1 2 5;m0 2 0 0 999;").cost(1), 1);
    Check.due("CALM makes up for it", Check.land("p0;p0;r0 1 10;m0 1 2 5 999;").cost(0), 0);
    Check.says(22, "NONE: somebody never is");
    Check.due("one of two", Check.land("p0;p0;p0;r0 1 1;m0 1 0 0 0;m0 2 0 0 0;").cost(0), Check.NONE);
    Check.due("the first of two", Check.land("p0;p0;p0;r0 1 1;m0 2 0 0 0;m0 1 0 0 0;").cost(2), Check.NONE);
  }

  /** Promise 23: miles. */
  private static void shorterMiles() {
    Check.says(23, "SHORTER: the ROAD that, one mile shorter (of 2 or more), brings all the most sooner together");
    HasteRoads two = Check.land("p0;p0;r0 1 2;m0 1 0 0 999;");
    Check.due("2 miles: the ROAD", two.shorter(0), 0);
    Check.due("2 miles: how much", two.shorter(1), 1);
    HasteRoads one = Check.land("p0;p0;r0 1 1;m0 1 9 0 999;");
    Check.due("1 mile: the ROAD", one.shorter(0), Check.NONE);
    Check.due("1 mile: how much", one.shorter(1), Check.NONE);
    HasteRoads both = Check.land("p0;p0;p0;r0 1 1;r1 2 2;m0 2 2 0 999;");
    Check.due("1 mile and 2: the ROAD", both.shorter(0), 1);
    Check.due("1 mile and 2: how much", both.shorter(1), 2);
    HasteRoads all = Check.land("p0;p0;p0;r0 1 5;r1 2 5;m0 1 9 0 999;m1 2 4 0 999;m1 2 4 0 999;m1 2 4 0 999;");
    Check.due("all together: the ROAD", all.shorter(0), 1);
    Check.due("all together: how much", all.shorter(1), 9);
    Check.due("miles as they were", all.road(0, 2) + all.road(1, 2), 10);
    Check.due("what 2", all.shorter(2), Check.OUTSIDE);
    Check.due("what -1", all.shorter(-1), Check.OUTSIDE);
    Check.due("a ROAD that is shorter only then", Check.land("p0;p0;r0 1 4;r0 1 4;m0 1 0 0 999;").shorter(1), 1);
  }

  /** Promise 23: the least ROAD. */
  private static void shorterLikeOnes() {
    Check.says(23, "of like ones the least");
    HasteRoads x = Check.land("p0;p0;p0;r0 1 4;r1 2 4;m0 2 2 0 999;");
    Check.due("two like ones", x.shorter(0), 0);
    Check.due("two like ones: how much", x.shorter(1), 2);
    HasteRoads nine = Check.land("p0;p0;" + "r0 1 9;".repeat(8) + "r0 1 4;m0 1 2 0 999;");
    Check.due("the last of nine", nine.shorter(0), 8);
    HasteRoads none = Check.land("p0;p0;r0 1 1;r0 1 3;r0 1 4;m0 1 2 0 999;");
    Check.due("nobody is sooner by any", none.shorter(0), 1);
    Check.due("nobody is sooner by any: how much", none.shorter(1), 0);
    Check.due("nobody at all", Check.land("p0;p0;r0 1 4;").shorter(1), 0);
  }

  /** Promise 23: NONE. */
  private static void shorterNone() {
    Check.says(23, "NONE: no such ROAD, somebody never is there");
    for (int what = 0; what <= 1; what++) {
      Check.due("no ROADS", Check.land("p0;m0 0 0 0 0;").shorter(what), Check.NONE);
      Check.due("none of 2 miles", Check.land("p0;p0;r0 1 1;r0 1 1;m0 1 0 0 0;").shorter(what), Check.NONE);
      Check.due("never", Check.land("p0;p0;p0;r0 1 9;m0 1 0 0 0;m0 2 0 0 0;").shorter(what), Check.NONE);
    }
  }

  /** Promise 24: k. */
  private static void lendBounds() {
    Check.says(24, "OUTSIDE (k 0 .. 5), NOT: it has not so much");
    for (int calm = 0; calm <= 5; calm++) {
      HasteRoads x = Check.land("p0;p0;r0 1 2;m0 0 0 " + calm + " 999;m0 1 9 0 999;");
      for (int k = 0; k <= 5; k++) {
        Check.due("lend(0, 1, " + k + ") with CALM " + calm, x.lend(0, 1, k), k <= calm ? k : Check.NOT);
      }
      Check.due("lend(0, 1, 6)", x.lend(0, 1, 6), Check.OUTSIDE);
      Check.due("lend(0, 1, -1)", x.lend(0, 1, -1), Check.OUTSIDE);
    }
    Check.says(24, "NOT: they are not at one PLACE");
    HasteRoads x = Check.land("p0;p0;r0 1 2;m0 0 0 5 999;m1 0 9 0 999;");
    Check.due("lend(0, 1, 0)", x.lend(0, 1, 0), Check.NOT);
    Check.due("lend(0, 1, 6)", x.lend(0, 1, 6), Check.OUTSIDE);
    x.go(0, 0, 0);
    Check.due("lend(0, 1, 5), it has come", x.lend(0, 1, 5), 5);
    Check.due("whatever their MINUTES are", x.person(0, 6), 2);
    Check.due("lend(0, 0, 5), one twice", x.lend(0, 0, 5), Check.UNKNOWN);
  }

  /** Promise 24: 5 at most for who gets it. */
  private static void lendFive() {
    Check.says(24, "5 at most for who gets it");
    for (int calm = 0; calm <= 5; calm++) {
      HasteRoads x = Check.land("p0;p0;r0 1 2;m0 0 0 5 999;m0 1 9 " + calm + " 999;");
      Check.due("lend(0, 1, 5) to CALM " + calm, x.lend(0, 1, 5), 5 - calm);
      Check.due("lend(0, 1, 1) to CALM " + calm, x.lend(0, 1, 1), calm < 5 ? 1 : 0);
    }
    Check.says(24, "by how much that one's SOONEST at its ERRAND is less");
    Check.due("it is there", Check.land("p0;m0 0 0 5 9;m0 0 0 0 9;").lend(0, 1, 5), 0);
    Check.due("HURRY 0", Check.land("p0;p0;r0 1 2;m0 0 0 5 9;m0 1 0 0 99;").lend(0, 1, 5), 0);
    Check.due("it would have waited", Check.land("p1;p0;r0 1 20;m0 0 0 5 9;m0 1 9 0 999;").lend(0, 1, 5), 5);
    Check.due("k 0", Check.land("p1;p0;r0 1 20;m0 0 0 5 9;m0 1 9 0 999;").lend(0, 1, 0), 0);
  }

  /** Promise 24: NONE. */
  private static void lendNone() {
    Check.says(24, "NONE: never");
    HasteRoads x = Check.land("p0;p0;m0 0 0 3 9;m0 1 0 0 9;");
    Check.due("lend(0, 1, 0)", x.lend(0, 1, 0), Check.NONE);
    Check.due("lend(0, 1, 3)", x.lend(0, 1, 3), Check.NONE);
    Check.due("lend(0, 1, 4), NOT is a refusal", x.lend(0, 1, 4), Check.NOT);
    Check.due("lend(1, 0, 0), who lends is never there", x.lend(1, 0, 0), 0);
  }

  /** Promise 25: 0. */
  private static void guardNow() {
    Check.says(25, "(0: now); UNKNOWN (like ones may be)");
    HasteRoads x = Check.land("p0;p0;p0;p0;p0;p0;r0 1 1;");
    for (int at = 0; at <= 5; at++) Check.due("guard(" + at + ", " + at + ")", x.guard(at, at), 0);
    Check.due("guard(6, 6)", x.guard(6, 6), Check.UNKNOWN);
    Check.due("guard(-1, -1)", x.guard(-1, -1), Check.UNKNOWN);
    Check.due("guard(0, 6)", x.guard(0, 6), Check.UNKNOWN);
    Check.due("guard(6, 0)", x.guard(6, 0), Check.UNKNOWN);
  }

  /** Promise 25: how many turns. */
  private static void guardTurns() {
    Check.says(25, "both by turns, the thief first, each goes a ROAD or stays: the fewest turns, the thief making it most");
    HasteRoads line = Check.land("p0;p0;p0;p0;p0;p0;r0 1 1;r1 2 1;r2 3 1;r3 4 1;r4 5 1;");
    for (int thief = 0; thief <= 5; thief++) {
      for (int guard = 0; guard <= 5; guard++) {
        // it runs to its own end, where the guard comes by one PLACE each turn
        int due = thief == guard ? 0 : thief > guard ? 5 - guard : guard;
        Check.due("guard(" + thief + ", " + guard + ") in a row of six", line.guard(thief, guard), due);
      }
    }
    HasteRoads two = Check.land("p0;p0;r0 1 20;");
    Check.due("two PLACES", two.guard(0, 1), 1);
    HasteRoads star = Check.land("p0;p0;p0;p0;r0 1 1;r0 2 1;r0 3 1;");
    Check.due("a star, the guard within", star.guard(1, 0), 1);
    Check.due("a star, the thief within", star.guard(0, 1), 2);
    Check.due("a star, both at its ends", star.guard(1, 2), 2);
    HasteRoads three = Check.land("p0;p0;p0;r0 1 1;r1 2 1;r2 0 1;");
    Check.due("a ring of three", three.guard(0, 1), 1);
  }

  /** Promise 25: NONE. */
  private static void guardNone() {
    Check.says(25, "NONE: never");
    HasteRoads apart = Check.land("p0;p0;p0;p0;r0 1 1;r2 3 1;");
    Check.due("no ROADS between", apart.guard(0, 2), Check.NONE);
    Check.due("no ROADS between", apart.guard(3, 1), Check.NONE);
    for (int n = 4; n <= 6; n++) {
      StringBuilder ring = new StringBuilder("p0;".repeat(n));
      for (int at = 0; at < n; at++) ring.append('r').append(at).append(' ').append((at + 1) % n).append(" 1;");
      HasteRoads x = Check.land(ring.toString());
      for (int guard = 1; guard < n; guard++) Check.due("a ring of " + n, x.guard(0, guard), Check.NONE);
    }
    Check.due("several ROADS between two are no ring", Check.land("p0;p0;r0 1 1;r0 1 1;").guard(0, 1), 1);
  }

  /** Promise 26: SETS. */
  private static void roundSets() {
    Check.says(26, "ROUND (a SET of PLACES)");
    HasteRoads x = Check.land("p0;p0;p0;p0;p0;p0;r0 1 1;r1 2 1;r2 3 1;r3 4 1;r4 5 1;m0 0 0 0 999;");
    Check.due("the empty SET", x.round(0, 0), 0);
    Check.due("all six", x.round(0, 63), 5);
    Check.due("the last", x.round(0, 32), 5);
    Check.due("one more than there is", x.round(0, 64), Check.UNKNOWN);
    Check.due("all six and one more", x.round(0, 127), Check.UNKNOWN);
    Check.due("-1", x.round(0, -1), Check.UNKNOWN);
    Check.due("a SET and nobody", x.round(1, 63), Check.UNKNOWN);
    x.await(0, 9);
    Check.due("the empty SET: now", x.round(0, 0), 9);
    HasteRoads one = Check.land("p0;m0 0 0 0 0;");
    Check.due("one PLACE", one.round(0, 1), 0);
    Check.due("one PLACE, SET 2", one.round(0, 2), Check.UNKNOWN);
  }

  /** Promise 26: where it is. */
  private static void roundWhereItIs() {
    Check.says(26, "in any order: the least MINUTE at which it has been at each (where it is counts)");
    HasteRoads x = Check.land("p0;p0;p0;p0;r0 1 2;r0 2 5;r0 3 4;m0 0 0 0 999;");
    Check.due("where it is", x.round(0, 1), 0);
    Check.due("another one", x.round(0, 2), 2);
    Check.due("where it is and another one", x.round(0, 3), 2);
    Check.due("two others: 2, 2, 5", x.round(0, 6), 9);
    Check.due("three others: 2, 2, 4, 4, 5", x.round(0, 14), 17);
    Check.due("those on the way count", Check.land("p0;p0;p0;r0 1 2;r1 2 2;m0 0 0 0 999;").round(0, 6), 4);
    x.go(0, 0, 0);
    Check.due("what it was at before does not count", x.round(0, 1), 4);
  }

  /** Promise 26: NONE. */
  private static void roundNone() {
    Check.says(26, "NONE");
    HasteRoads x = Check.land("p0;p0;p0;r0 1 2;m0 0 0 0 999;m2 0 0 0 999;");
    Check.due("one that no ROADS lead to", x.round(0, 4), Check.NONE);
    Check.due("one of three", x.round(0, 7), Check.NONE);
    Check.due("without it", x.round(0, 3), 2);
    Check.due("who is there alone", x.round(1, 4), 0);
    Check.due("who is there alone, another one", x.round(1, 5), Check.NONE);
  }

  /** Promise 26: CALM. */
  private static void roundMends() {
    Check.says(26, "(CALM is mended at INNS as it waits.)");
    HasteRoads x = Check.land("p1;p0;r0 1 20;m0 0 9 0 999;");
    Check.due("5 waited, 60", x.round(0, 2), 65);
    x.inn(0, false);
    Check.due("no INN", x.round(0, 2), 110);
    // out and home, with the INN in the middle: 5, 60, 110, 5, 60
    HasteRoads y = Check.land("p1;p0;p0;r0 1 20;r0 2 20;m0 0 9 0 999;");
    Check.due("at the INN twice", y.round(0, 6), 5 + 60 + 110 + 5 + 60);
  }

  /** A row of three, 4 miles and 4, and two at its ends; nothing of it is as at first. */
  private static HasteRoads changed() {
    HasteRoads x = Check.land("p0;p0;p0;r0 1 9;r1 2 9;m1 2 9 0 999;m1 0 9 0 999;c2;");
    x.go(0, 0, 0);
    x.go(1, 1, 0);
    x.inn(1, true);
    x.clock(1, true);
    x.clock(2, false);
    x.miles(0, 4);
    x.miles(1, 4);
    x.load(0, 1);
    x.load(1, 1);
    return x;
  }

  /** Promises 16 to 26: each as the first one that is asked behind a change. HURRY is 10, 11 at 1; both are at 50. */
  private static void asItIsNow() {
    Check.says(16, "TRIED from its MINUTE, PLACE, CALM");
    Check.due("soonest", changed().soonest(0, 1), 74);
    Check.due("soonest behind an INN: 24, 5 waited, 16", changed().soonest(0, 2), 95);
    Check.says(17, "TRIED from its MINUTE, PLACE, CALM");
    int[] row = {0, -2, -2, -2, -2, -2, 15, Check.NONE};
    for (int i = 0; i < row.length; i++) Check.due("step(0, " + i + ")", changed().step(0, i), row[i]);
    Check.says(18, "TRIED from its MINUTE, PLACE, CALM");
    Check.due("latest, 45 ahead of 999 with 10 left at 1", changed().latest(0), latestOfChanged());
    Check.says(19, "TRIED from its MINUTE, PLACE, CALM");
    Check.due("inns", changed().inns(0), 0);
    Check.says(20, "TRIED from PLACE, CALM");
    Check.due("relay", changed().relay(0, 1, 0), 24);
    Check.due("relay behind an INN", changed().relay(0, 2, 0), 45);
    Check.due("relay from where they were", changed().relay(1, 0, 0), Check.NONE);
    Check.says(21, "TRIED from its MINUTE, PLACE, CALM");
    Check.due("meet", changed().meet(0, 1, 0), 74);
    Check.due("meet, the PLACE", changed().meet(0, 1, 1), 1);
    Check.says(22, "TRIED from its MINUTE, PLACE, CALM");
    Check.due("cost(1), one mile of HURRY for both", changed().cost(1), 4);
    Check.due("cost(2)", changed().cost(2), 2);
    Check.says(23, "TRIED from its MINUTE, PLACE, CALM");
    Check.due("shorter", changed().shorter(0), 0);
    Check.due("shorter: 6 for one, 4 for the other one", changed().shorter(1), 10);
    Check.says(24, "TRIED from its MINUTE, PLACE, CALM");
    Check.due("lend, no more at one PLACE", changed().lend(0, 1, 0), Check.NOT);
    HasteRoads x = changed();
    x.go(0, 0, 0);
    x.go(0, 1, 0);
    x.inn(2, true);
    x.await(0, 2);
    Check.due("lend, 2 at one PLACE: two minutes less to wait", x.lend(0, 1, 2), 2);
    Check.says(26, "TRIED from its MINUTE, PLACE, CALM");
    Check.due("round", changed().round(0, 6), 95);
  }

  /** Minute by minute, staying, from the answers of soonest. */
  private static int latestOfChanged() {
    int latest = Check.NONE;
    for (int stay = 870; stay <= 949; stay++) {
      HasteRoads x = changed();
      x.await(0, stay);
      if (x.soonest(0, 2) <= 999) latest = 50 + stay;
    }
    return latest;
  }

  /** Promises 16 to 26 where there is no room for more: 6 PLACES in a row, 9 ROADS (four too long), 4 PERSONS. */
  private static void fullLand() {
    String row = "p0;p0;p0;p0;p0;p0;r0 1 2;r1 2 2;r2 3 2;r3 4 2;r4 5 2;r0 1 20;r1 2 20;r2 3 20;r3 4 20;";
    HasteRoads x = Check.land(row + "m0 5 0 0 999;m5 0 0 0 999;m2 3 0 0 999;m3 2 0 0 999;");
    Check.says(16, "6 PLACES, 9 ROADS, 4 PERSONS");
    for (int at = 0; at <= 5; at++) {
      Check.due("soonest(0, " + at + ")", x.soonest(0, at), 2 * at);
      Check.due("soonest(1, " + at + ")", x.soonest(1, at), 2 * (5 - at));
    }
    Check.says(17, "6 PLACES, 9 ROADS, 4 PERSONS");
    int[] there = {0, 10, 20, 30, 40, Check.NONE};
    int[] back = {40, 30, 20, 10, 0, Check.NONE};
    for (int i = 0; i <= 5; i++) {
      Check.due("step(0, " + i + ")", x.step(0, i), there[i]);
      Check.due("step(1, " + i + ")", x.step(1, i), back[i]);
    }
    Check.says(18, "6 PLACES, 9 ROADS, 4 PERSONS");
    Check.due("latest(0): 2, 2, then 3, 3, 3 with fewer than 10 left", x.latest(0), 999 - 13);
    Check.due("latest(3)", x.latest(3), 999 - 3);
    Check.says(19, "6 PLACES, 9 ROADS, 4 PERSONS");
    Check.due("inns(0)", x.inns(0), 0);
    Check.says(20, "6 PLACES, 9 ROADS, 4 PERSONS");
    Check.due("relay(0, 5, 0)", x.relay(0, 5, 0), 10);
    Check.due("relay(0, 5, 1)", x.relay(0, 5, 1), 1);
    Check.due("relay(5, 0, 0)", x.relay(5, 0, 0), 10);
    Check.due("relay(4, 0, 0)", x.relay(4, 0, 0), Check.NONE);
    Check.says(21, "6 PLACES, 9 ROADS, 4 PERSONS");
    Check.due("meet(0, 1, 0)", x.meet(0, 1, 0), 6);
    Check.due("meet(0, 1, 1)", x.meet(0, 1, 1), 2);
    Check.says(22, "6 PLACES, 9 ROADS, 4 PERSONS");
    for (int at = 0; at <= 5; at++) Check.due("cost(" + at + ")", x.cost(at), at == 2 || at == 3 ? 3 : at % 5 == 0 ? 1 : 2);
    Check.says(23, "6 PLACES, 9 ROADS, 4 PERSONS");
    Check.due("shorter(0), which all of them go", x.shorter(0), 2);
    Check.due("shorter(1)", x.shorter(1), 4);
    Check.says(24, "6 PLACES, 9 ROADS, 4 PERSONS");
    Check.due("lend(3, 2, 0)", x.lend(3, 2, 0), Check.NOT);
    Check.says(25, "6 PLACES, 9 ROADS, 4 PERSONS");
    Check.due("guard(5, 0)", x.guard(5, 0), 5);
    Check.due("guard(0, 5)", x.guard(0, 5), 5);
    Check.says(26, "6 PLACES, 9 ROADS, 4 PERSONS");
    Check.due("round(0, 63)", x.round(0, 63), 10);
    Check.due("round(2, 63): 4 and 10", x.round(2, 63), 14);
    Check.due("round(3, 63): 4 and 10", x.round(3, 63), 14);
  }

  /** Promises 16 to 26: what an earlier, greater land had is no more. */
  private static void smallerLand() {
    HasteRoads x = Check.land("p1;p1;p1;p1;p1;p1;r0 1 1;r0 2 1;r0 3 1;r0 4 1;r0 5 1;r1 2 1;m0 5 0 0 99;m0 5 0 0 99;c0;");
    x.soonest(0, 5);
    Check.feed(x, "p0;p0;p0;r0 1 4;m0 1 9 0 999;");
    x.land();
    Check.says(16, "NONE: no ROADS lead there (they did in an earlier land)");
    Check.due("soonest(0, 1)", x.soonest(0, 1), 22);
    Check.due("soonest(0, 2)", x.soonest(0, 2), Check.NONE);
    Check.due("soonest(0, 3)", x.soonest(0, 3), Check.UNKNOWN);
    Check.due("relay(0, 2, 0)", x.relay(0, 2, 0), Check.NONE);
    Check.due("guard(0, 2)", x.guard(0, 2), Check.NONE);
    Check.due("guard(0, 1)", x.guard(0, 1), 1);
    Check.due("round(0, 4)", x.round(0, 4), Check.NONE);
    Check.due("round(0, 8)", x.round(0, 8), Check.UNKNOWN);
    Check.due("meet(0, 1, 0)", x.meet(0, 1, 0), Check.UNKNOWN);
    Check.due("cost(0)", x.cost(0), 2);
    Check.due("shorter(1)", x.shorter(1), 5);
    Check.due("told(4)", x.told(4), 0);
    Check.due("told(5)", x.told(5), 0);
  }

  private static HasteRoads some() {
    HasteRoads x = Check.land("p1;p0;p0;r0 1 5;r1 2 6;m0 2 3 2 30;m0 1 4 1 40;c1;");
    x.await(0, 1);
    x.load(1, 2);
    x.keep(0);
    x.took(0, 0, 0, 0, 5);
    x.write(-2);
    x.seed(5);
    Check.feed(x, "p0;");
    return x;
  }

  /** Promises 16 to 26. */
  private static void nothingChanges() {
    Check.says(16, "nothing changes by it");
    HasteRoads x = some();
    x.soonest(1, 2);
    Check.same("soonest", x, some());
    x = some();
    for (int i = 0; i < 9; i++) x.step(0, i);
    Check.same("step", x, some());
    x = some();
    x.latest(0);
    Check.same("latest", x, some());
    x = some();
    x.inns(0);
    x.inns(1);
    Check.same("inns", x, some());
    x = some();
    x.relay(0, 2, 0);
    Check.same("relay", x, some());
    x = some();
    x.meet(0, 1, 1);
    Check.same("meet", x, some());
    x = some();
    for (int at = 0; at < 3; at++) x.cost(at);
    Check.same("cost", x, some());
    x = some();
    x.shorter(0);
    Check.same("shorter", x, some());
    x = some();
    x.lend(0, 1, 2);
    Check.same("lend", x, some());
    x = some();
    x.guard(0, 2);
    Check.same("guard", x, some());
    x = some();
    x.round(0, 7);
    Check.same("round", x, some());
    x = some();
    x.spent(0);
    x.lie();
    x.judge(0, 0);
    x.takes(0, 0, 0, 5, 5);
    Check.same("what was told", x, some());
  }
}
