/** Promises 16 to 26: what is tried, on lands small enough to be worked out by hand. */
public final class TriedTest {
  public static void main(String[] args) {
    soonest();
    step();
    latest();
    inns();
    relay();
    meet();
    cost();
    shorter();
    lend();
    guard();
    round();
    nothingChanges();
    Check.end("TriedTest");
  }

  /** Promise 16. */
  private static void soonest() {
    // by the INN: waiting saves 10 minutes each, till CALM is 5
    HasteRoads x = Check.land("p1;p0;p0;r0 1 20;m0 1 9 0 999;m1 0 9 0 999;");
    Check.due("soonest(0, 0)", x.soonest(0, 0), 0);
    Check.due("soonest(0, 1), 5 waited, HURRY 4", x.soonest(0, 1), 65);
    Check.due("soonest(1, 0), no INN", x.soonest(1, 0), 110);
    Check.due("soonest(0, 2)", x.soonest(0, 2), Check.NONE);
    Check.due("soonest(2, 0)", x.soonest(2, 0), Check.UNKNOWN);
    Check.due("soonest(0, 3)", x.soonest(0, 3), Check.UNKNOWN);
    Check.due("soonest(0, -1)", x.soonest(0, -1), Check.UNKNOWN);
    x.await(0, 7);
    Check.due("soonest(0, 0), now", x.soonest(0, 0), 7);
    Check.due("soonest(0, 1), CALM 5", x.soonest(0, 1), 67);
    // of two ROADS the shorter one; a way round by an INN beats both
    HasteRoads y = Check.land("p0;p0;p1;r0 1 20;r0 1 19;r0 2 1;r2 1 12;m0 1 9 0 999;");
    Check.due("by the INN: 6, 5 waited, 36", y.soonest(0, 1), 47);
    y.inn(2, false);
    Check.due("by the INN that is none: 6, 66", y.soonest(0, 1), 72);
    y.miles(3, 20);
    Check.due("by the ROAD of 19", y.soonest(0, 1), 105);
  }

  private static void steps(HasteRoads x, int p, int... row) {
    for (int i = 0; i < row.length; i++) Check.due("step(" + p + ", " + i + ")", x.step(p, i), row[i]);
    for (int i = row.length; i < 100; i += 9) Check.due("step(" + p + ", " + i + ")", x.step(p, i), Check.NONE);
  }

  /** Promise 17. */
  private static void step() {
    HasteRoads x = Check.land("p1;p0;p0;r0 1 20;m0 1 9 0 999;m0 0 9 0 999;m0 2 9 5 999;");
    steps(x, 0, -2, -2, -2, -2, -2, 5);
    steps(x, 1);
    steps(x, 2);
    Check.due("step(0, 100)", x.step(0, 100), Check.OUTSIDE);
    Check.due("step(0, -1)", x.step(0, -1), Check.OUTSIDE);
    Check.due("step(3, -1)", x.step(3, -1), Check.UNKNOWN);
    // waiting a minute saves one: of like ones waiting is ahead
    steps(Check.land("p1;p0;r0 1 2;m0 1 1 0 999;"), 0, -2, 1);
    // no INN: going at once; the lesser ROAD of like ones
    steps(Check.land("p0;p0;r0 1 2;r1 0 2;m0 1 1 0 999;"), 0, 0);
    // 1 mile: HURRY 1 and 2 are both 2 minutes, HURRY 0 is 1: the lesser s of like ones
    steps(Check.land("p0;p0;r0 1 1;m0 1 2 1 999;"), 0, 0);
    steps(Check.land("p0;p0;r0 1 1;m0 1 2 5 999;"), 0, 2);
    // spent on the second ROAD rather than the first, which is the lesser s first
    steps(Check.land("p0;p0;p0;r0 1 4;r1 2 4;m0 2 1 1 999;"), 0, 0, 11);
    // a whole way round rather than a long ROAD
    steps(Check.land("p0;p0;p1;r0 1 20;r0 1 19;r0 2 1;r2 1 12;m0 1 9 0 999;"), 0, 20, -2, -2, -2, -2, -2, 35);
  }

  /** Promise 18. */
  private static void latest() {
    // HURRY 0 is 5 minutes, but with fewer than 10 left HURRY is 1 and 5 miles are 8 minutes
    HasteRoads x = Check.land("p0;p0;p0;r0 1 5;m0 1 0 0 30;m0 0 0 0 30;m0 2 0 0 30;m0 1 0 0 7;");
    Check.due("latest(0)", x.latest(0), 22);
    Check.due("latest(1), there", x.latest(1), 30);
    Check.due("latest(2), never", x.latest(2), Check.NONE);
    Check.due("latest(3), 8 minutes, due at 7", x.latest(3), Check.NONE);
    Check.due("latest(4)", x.latest(4), Check.UNKNOWN);
    Check.due("latest(-1)", x.latest(-1), Check.UNKNOWN);
    x.await(0, 22);
    Check.due("latest(0) at 22", x.latest(0), 22);
    x.await(0, 1);
    Check.due("latest(0) at 23", x.latest(0), Check.NONE);
    x.await(1, 30);
    Check.due("latest(1) at T", x.latest(1), 30);
    x.await(1, 1);
    Check.due("latest(1), late", x.latest(1), Check.NONE);
    // ten left are enough for 10 miles
    Check.due("10 miles", Check.land("p0;p0;r0 1 10;m0 1 0 0 30;").latest(0), 20);
    // CALM as now: staying at the INN does not mend it, waiting behind does; 4 saved with each, HURRY 0 at 5
    Check.due("at an INN", Check.land("p1;p0;r0 1 8;m0 1 5 0 50;").latest(0), 35);
  }

  /** Promise 19. */
  private static void inns() {
    // with an INN at its PLACE: 5 waited, 20 times 6 / 2 = 60, 65; none: 110
    HasteRoads x = Check.land("p1;p0;r0 1 20;m0 1 9 0 65;");
    Check.due("inns(0)", x.inns(0), 1);
    Check.due("inns(1)", x.inns(1), 1);
    Check.due("inns(2)", x.inns(2), Check.OUTSIDE);
    Check.due("inns(-1)", x.inns(-1), Check.OUTSIDE);
    Check.due("told(4), as it was", x.told(4), 1);
    // fewer than 10 left: later than it looks
    Check.due("due at 64", Check.land("p1;p0;r0 1 20;m0 1 9 0 64;").inns(0), Check.NONE);
    Check.due("no INN is needed", Check.land("p1;p1;r0 1 20;m0 1 9 0 110;").inns(0), 0);
    Check.due("the SET of none", Check.land("p1;p1;r0 1 20;m0 1 9 0 110;").inns(1), 0);
    Check.due("somebody never is", Check.land("p1;p1;m0 1 9 0 999;").inns(1), Check.NONE);
    Check.due("nobody", Check.land("p1;p1;").inns(1), 0);
    // two who start apart need two INNS; one that both pass is enough for a later T
    HasteRoads y = Check.land("p0;p0;p0;p0;r0 2 1;r1 2 1;r2 3 20;m0 3 9 0 76;m1 3 9 0 76;");
    Check.due("one that both pass", y.inns(0), 1);
    Check.due("which one", y.inns(1), 4);
    HasteRoads z = Check.land("p0;p0;p0;r0 2 20;r1 2 20;m0 2 9 0 70;m1 2 9 0 70;");
    Check.due("two", z.inns(0), 2);
    Check.due("which ones", z.inns(1), 3);
    HasteRoads late = Check.land("p0;m0 0 0 0 5;");
    late.await(0, 6);
    Check.due("there, but late", late.inns(0), Check.NONE);
  }

  /** Promise 20. */
  private static void relay() {
    HasteRoads x = Check.land("p0;p0;p0;p0;r0 1 10;r1 2 10;m0 2 4 0 999;m1 2 0 0 999;m2 0 0 0 999;");
    Check.due("relay(0, 1, 0)", x.relay(0, 1, 0), 30);
    Check.due("relay(0, 1, 1)", x.relay(0, 1, 1), 1);
    Check.due("relay(0, 2, 0), by another one from 1 on", x.relay(0, 2, 0), 40);
    Check.due("relay(0, 2, 1)", x.relay(0, 2, 1), 2);
    Check.due("relay(2, 0, 0), by one alone", x.relay(2, 0, 0), 20);
    Check.due("relay(2, 0, 1)", x.relay(2, 0, 1), 1);
    Check.due("relay(0, 3, 0)", x.relay(0, 3, 0), Check.NONE);
    Check.due("relay(0, 3, 1)", x.relay(0, 3, 1), Check.NONE);
    Check.due("relay(3, 0, 0), nobody is there", x.relay(3, 0, 0), Check.NONE);
    Check.due("relay(0, 0, 0)", x.relay(0, 0, 0), Check.UNKNOWN);
    Check.due("relay(0, 4, 2)", x.relay(0, 4, 2), Check.UNKNOWN);
    Check.due("relay(-1, 0, 0)", x.relay(-1, 0, 0), Check.UNKNOWN);
    Check.due("relay(0, 1, 2)", x.relay(0, 1, 2), Check.OUTSIDE);
    x.await(0, 500);
    Check.due("MINUTES are not looked at", x.relay(0, 2, 0), 40);
    // it comes at 30 to one who is late then: 10 miles with HURRY 3
    HasteRoads y = Check.land("p0;p0;p0;r0 1 10;r1 2 10;m0 2 4 0 999;m1 2 0 0 29;");
    Check.due("the minute at which it comes counts", y.relay(0, 2, 0), 55);
    HasteRoads z = Check.land("p0;p0;p0;r0 1 10;r1 2 10;m0 2 4 0 999;m1 2 4 0 999;");
    Check.due("like ones: the minute", z.relay(0, 2, 0), 60);
    Check.due("like ones: by how many at least", z.relay(0, 2, 1), 1);
    // at 30 by three (4, 10, 30) and by two (20, 30)
    HasteRoads w = Check.land("p0;p0;p0;p0;p0;r0 1 2;r1 2 4;r0 3 10;r2 4 20;r3 4 10;"
        + "m0 0 2 0 999;m1 0 1 0 999;m2 0 0 0 999;m3 0 0 0 999;");
    Check.due("two ways: the minute", w.relay(0, 4, 0), 30);
    Check.due("two ways: by how many at least", w.relay(0, 4, 1), 2);
  }

  /** Promise 21. */
  private static void meet() {
    HasteRoads x = Check.land("p0;p0;p0;p0;r0 1 10;r1 2 10;m0 2 0 0 999;m2 0 0 0 999;m3 3 0 0 999;m0 0 0 0 999;");
    Check.due("meet(0, 1, 0)", x.meet(0, 1, 0), 10);
    Check.due("meet(0, 1, 1)", x.meet(0, 1, 1), 1);
    Check.due("meet(0, 2, 0)", x.meet(0, 2, 0), Check.NONE);
    Check.due("meet(0, 2, 1)", x.meet(0, 2, 1), Check.NONE);
    Check.due("meet(0, 3, 0)", x.meet(0, 3, 0), 0);
    Check.due("meet(3, 0, 1)", x.meet(3, 0, 1), 0);
    Check.due("meet(0, 0, 0)", x.meet(0, 0, 0), Check.UNKNOWN);
    Check.due("meet(0, 4, 2)", x.meet(0, 4, 2), Check.UNKNOWN);
    Check.due("meet(-1, 0, 0)", x.meet(-1, 0, 0), Check.UNKNOWN);
    Check.due("meet(0, 1, 2)", x.meet(0, 1, 2), Check.OUTSIDE);
    Check.due("meet(0, 1, -1)", x.meet(0, 1, -1), Check.OUTSIDE);
    x.await(1, 25);
    Check.due("the greater of both", x.meet(0, 1, 0), 25);
    Check.due("where the later one is", x.meet(0, 1, 1), 2);
    HasteRoads y = Check.land("p0;p0;r0 1 10;m0 0 0 0 999;m1 1 0 0 999;");
    Check.due("of like ones the least PLACE", y.meet(0, 1, 1), 0);
  }

  /** Promise 22. */
  private static void cost() {
    HasteRoads x = Check.land("p0;p0;p0;r0 1 10;r1 2 4;m0 2 2 0 999;m1 0 2 0 999;c1;");
    Check.due("cost(0), 10 miles with HURRY 1 more", x.cost(0), 5);
    Check.due("cost(1), both leave it", x.cost(1), 7);
    Check.due("cost(2), nobody leaves it", x.cost(2), 0);
    Check.due("told(5), as it was", x.told(5), 2);
    Check.due("cost(3)", x.cost(3), Check.UNKNOWN);
    Check.due("cost(-1)", x.cost(-1), Check.UNKNOWN);
    Check.due("somebody never is", Check.land("p0;p0;m0 1 0 0 0;").cost(0), Check.NONE);
    Check.due("nobody", Check.land("p0;").cost(0), 0);
  }

  /** Promise 23. */
  private static void shorter() {
    HasteRoads x = Check.land("p0;p0;p0;r0 1 1;r1 2 10;r0 2 20;r0 1 5;m0 2 2 0 999;m1 2 2 0 999;");
    Check.due("shorter(0)", x.shorter(0), 1);
    Check.due("shorter(1), 2 for each", x.shorter(1), 4);
    Check.due("shorter(2)", x.shorter(2), Check.OUTSIDE);
    Check.due("shorter(-1)", x.shorter(-1), Check.OUTSIDE);
    Check.due("miles as they were", x.road(1, 2), 10);
    HasteRoads y = Check.land("p0;p0;p0;r0 1 1;r0 1 4;r1 2 6;m0 1 0 0 999;");
    Check.due("none is sooner: the least of like ones", y.shorter(0), 1);
    Check.due("by 0", y.shorter(1), 0);
    Check.due("no ROAD of 2", Check.land("p0;p0;r0 1 1;m0 1 0 0 9;").shorter(0), Check.NONE);
    Check.due("no ROAD of 2", Check.land("p0;p0;r0 1 1;m0 1 0 0 9;").shorter(1), Check.NONE);
    Check.due("somebody never is", Check.land("p0;p0;p0;r0 1 9;m0 2 0 0 9;").shorter(0), Check.NONE);
    Check.due("nobody", Check.land("p0;p0;r0 1 9;").shorter(0), 0);
  }

  /** Promise 24. */
  private static void lend() {
    HasteRoads x = Check.land("p0;p0;p0;r0 1 10;m0 1 9 4 999;m0 1 9 3 999;m1 0 9 5 999;m0 2 9 0 999;");
    Check.due("lend(0, 1, 0)", x.lend(0, 1, 0), 0);
    Check.due("lend(0, 1, 1)", x.lend(0, 1, 1), 5);
    Check.due("lend(0, 1, 4), 5 at most", x.lend(0, 1, 4), 10);
    Check.due("lend(1, 0, 3)", x.lend(1, 0, 3), 5);
    Check.due("lend(0, 1, 5), not so much", x.lend(0, 1, 5), Check.NOT);
    Check.due("lend(0, 1, 6)", x.lend(0, 1, 6), Check.OUTSIDE);
    Check.due("lend(2, 1, -1)", x.lend(2, 1, -1), Check.OUTSIDE);
    Check.due("lend(2, 1, 1), not at one PLACE", x.lend(2, 1, 1), Check.NOT);
    Check.due("lend(0, 3, 1), never", x.lend(0, 3, 1), Check.NONE);
    Check.due("lend(0, 0, 1)", x.lend(0, 0, 1), Check.UNKNOWN);
    Check.due("lend(0, 4, 9)", x.lend(0, 4, 9), Check.UNKNOWN);
    Check.due("lend(-1, 0, 0)", x.lend(-1, 0, 0), Check.UNKNOWN);
    Check.due("CALM as it was", x.person(0, 3) * 10 + x.person(1, 3), 43);
  }

  /** Promise 25. */
  private static void guard() {
    HasteRoads line = Check.land("p0;p0;p0;p0;p0;r0 1 1;r1 2 1;r2 3 1;");
    Check.due("guard(0, 0)", line.guard(0, 0), 0);
    Check.due("guard(0, 1)", line.guard(0, 1), 1);
    Check.due("guard(0, 2), it stays at the end", line.guard(0, 2), 2);
    Check.due("guard(1, 3)", line.guard(1, 3), 3);
    Check.due("guard(1, 2), it runs to the end", line.guard(1, 2), 2);
    Check.due("guard(0, 4)", line.guard(0, 4), Check.NONE);
    Check.due("guard(4, 4)", line.guard(4, 4), 0);
    Check.due("guard(5, 0)", line.guard(5, 0), Check.UNKNOWN);
    Check.due("guard(0, -1)", line.guard(0, -1), Check.UNKNOWN);
    HasteRoads ring = Check.land("p0;p0;p0;p0;r0 1 1;r1 2 1;r2 3 1;r3 0 1;");
    Check.due("in a ring of four, apart", ring.guard(0, 2), Check.NONE);
    Check.due("in a ring of four, side by side", ring.guard(0, 1), Check.NONE);
    HasteRoads three = Check.land("p0;p0;p0;r0 1 1;r1 2 1;r2 0 1;");
    Check.due("in a ring of three", three.guard(0, 2), 1);
  }

  /** Promise 26. */
  private static void round() {
    HasteRoads x = Check.land("p0;p0;p0;p0;r0 1 2;r0 2 5;m0 3 0 0 999;");
    Check.due("round(0, 0)", x.round(0, 0), 0);
    Check.due("round(0, 1), where it is counts", x.round(0, 1), 0);
    Check.due("round(0, 2)", x.round(0, 2), 2);
    Check.due("round(0, 6), the near one first", x.round(0, 6), 9);
    Check.due("round(0, 7)", x.round(0, 7), 9);
    Check.due("round(0, 8)", x.round(0, 8), Check.NONE);
    Check.due("round(0, 15)", x.round(0, 15), Check.NONE);
    Check.due("round(0, 16), no such PLACE", x.round(0, 16), Check.UNKNOWN);
    Check.due("round(0, -1)", x.round(0, -1), Check.UNKNOWN);
    Check.due("round(1, 0)", x.round(1, 0), Check.UNKNOWN);
    x.await(0, 5);
    Check.due("round(0, 0), now", x.round(0, 0), 5);
    // the INN on the way round: waiting 5 there saves 10 each; 6 and 5 and 60
    HasteRoads y = Check.land("p0;p1;p0;r0 1 1;r1 2 20;m0 0 9 0 999;");
    Check.due("CALM is mended", y.round(0, 7), 71);
  }

  /** Nothing changes by what is tried. */
  private static void nothingChanges() {
    HasteRoads x = Check.land("p1;p0;p0;r0 1 5;r1 2 6;m0 2 3 2 30;m0 1 4 1 40;c1;");
    x.await(0, 1);
    x.load(1, 2);
    String before = picture(x);
    for (int i = 0; i < 5; i++) x.step(0, i);
    x.soonest(1, 2);
    x.latest(1);
    x.inns(1);
    x.relay(0, 2, 1);
    x.meet(0, 1, 0);
    x.cost(1);
    x.shorter(0);
    x.lend(0, 1, 2);
    x.guard(0, 2);
    x.round(0, 7);
    Check.holds("nothing changes by it", before.equals(picture(x)));
  }

  private static String picture(HasteRoads x) {
    StringBuilder all = new StringBuilder();
    for (int what = 0; what <= 7; what++) {
      all.append(x.told(what)).append(' ').append(x.person(0, what)).append(' ').append(x.person(1, what)).append(' ');
    }
    for (int what = 0; what <= 2; what++) all.append(x.road(0, what)).append(' ').append(x.road(1, what)).append(' ');
    return all.toString();
  }
}
