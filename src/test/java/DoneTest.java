/** Promises 9 to 15: what is done. */
public final class DoneTest {
  public static void main(String[] args) {
    go();
    await();
    minutesFull();
    load();
    inn();
    clock();
    miles();
    drift();
    Check.end("DoneTest");
  }

  /** Promise 9. */
  private static void go() {
    HasteRoads x = Check.land("p0;p1;p0;r0 1 7;r1 2 4;m0 2 4 3 50;");
    Check.due("go(1, 0, 9)", x.go(1, 0, 9), Check.UNKNOWN);
    Check.due("go(-1, 0, 0)", x.go(-1, 0, 0), Check.UNKNOWN);
    Check.due("go(0, 2, 0)", x.go(0, 2, 0), Check.UNKNOWN);
    Check.due("go(0, -1, 6)", x.go(0, -1, 6), Check.UNKNOWN);
    Check.due("go(0, 1, 6)", x.go(0, 1, 6), Check.OUTSIDE);
    Check.due("go(0, 0, -1)", x.go(0, 0, -1), Check.OUTSIDE);
    Check.due("go(0, 1, 0): it is not there", x.go(0, 1, 0), Check.NOT);
    Check.due("go(0, 0, 4): not so much CALM", x.go(0, 0, 4), Check.NOT);
    Check.due("MINUTE after what was refused", x.person(0, 6), 0);
    Check.due("CALM after what was refused", x.person(0, 3), 3);
    Check.due("go(0, 0, 2)", x.go(0, 0, 2), 14);
    Check.due("PLACE", x.person(0, 0), 1);
    Check.due("CALM", x.person(0, 3), 1);
    Check.due("MINUTE", x.person(0, 6), 14);
    Check.due("go back, B to A", x.go(0, 0, 1), 32);
    Check.due("PLACE", x.person(0, 0), 0);
    Check.due("CALM", x.person(0, 3), 0);
  }

  /** Promise 10. */
  private static void await() {
    HasteRoads x = Check.land("p0;p1;m0 1 4 3 50;m1 1 4 1 50;");
    Check.due("await(2, 0)", x.await(2, 0), Check.UNKNOWN);
    Check.due("await(0, 0)", x.await(0, 0), Check.OUTSIDE);
    Check.due("await(0, 1000)", x.await(0, 1000), Check.OUTSIDE);
    Check.due("await(0, 999)", x.await(0, 999), 999);
    Check.due("CALM where no INN is", x.person(0, 3), 3);
    Check.due("await(1, 1)", x.await(1, 1), 1);
    Check.due("CALM at an INN", x.person(1, 3), 2);
    Check.due("await(1, 2)", x.await(1, 2), 3);
    Check.due("CALM at an INN", x.person(1, 3), 4);
    Check.due("await(1, 999)", x.await(1, 999), 1002);
    Check.due("CALM 5 at most", x.person(1, 3), 5);
  }

  /** Promises 9 and 10: FULL is a MINUTE above 90000, seen ahead of the call. */
  private static void minutesFull() {
    HasteRoads x = Check.land("p0;p1;r0 1 1;m0 1 0 0 0;");
    for (int i = 0; i < 90; i++) x.await(0, 999);
    Check.due("await(0, 90)", x.await(0, 90), 90000);
    Check.due("go(0, 0, 1)", x.go(0, 0, 1), Check.NOT);
    Check.due("go(0, 0, 0) at 90000", x.go(0, 0, 0), 90003);
    Check.due("await(0, 1)", x.await(0, 1), Check.FULL);
    Check.due("go(0, 0, 0)", x.go(0, 0, 0), Check.FULL);
    Check.due("go(0, 0, 1)", x.go(0, 0, 1), Check.NOT);
    Check.due("await(0, 0)", x.await(0, 0), Check.OUTSIDE);
    Check.due("MINUTE", x.person(0, 6), 90003);
    Check.due("soonest(0, 0)", x.soonest(0, 0), 90006);
    HasteRoads y = Check.land("p1;m0 0 0 0 0;");
    for (int i = 0; i < 90; i++) y.await(0, 999);
    y.await(0, 90);
    Check.due("await(0, 999) at 90000", y.await(0, 999), 90999);
  }

  /** Promise 11. */
  private static void load() {
    HasteRoads x = Check.land("p0;m0 0 4 3 50;");
    Check.due("load(0, 9)", x.load(0, 9), 0);
    Check.due("load(0, 4)", x.load(0, 4), 9);
    Check.due("load(0, 10)", x.load(0, 10), Check.OUTSIDE);
    Check.due("load(0, -1)", x.load(0, -1), Check.OUTSIDE);
    Check.due("load(1, 10)", x.load(1, 10), Check.UNKNOWN);
    Check.due("LOAD", x.person(0, 5), 4);
    Check.due("load(0, 0)", x.load(0, 0), 4);
  }

  /** Promise 12. */
  private static void inn() {
    HasteRoads x = Check.land("p0;p1;m0 0 4 3 50;");
    Check.due("inn(0, false)", x.inn(0, false), 0);
    Check.due("inn(0, true)", x.inn(0, true), 0);
    Check.due("inn(0, true)", x.inn(0, true), 1);
    Check.due("told(4)", x.told(4), 3);
    Check.due("inn(1, false)", x.inn(1, false), 1);
    Check.due("told(4)", x.told(4), 1);
    Check.due("inn(2, true)", x.inn(2, true), Check.UNKNOWN);
    Check.due("inn(-1, true)", x.inn(-1, true), Check.UNKNOWN);
    Check.due("told(4)", x.told(4), 1);
    x.await(0, 1);
    Check.due("CALM", x.person(0, 3), 4);
  }

  /** Promise 13. */
  private static void clock() {
    HasteRoads x = Check.land("p0;p1;m0 0 4 3 50;c1;");
    Check.due("clock(0, false)", x.clock(0, false), 0);
    Check.due("clock(0, true)", x.clock(0, true), 0);
    Check.due("clock(0, true)", x.clock(0, true), 1);
    Check.due("told(5)", x.told(5), 3);
    Check.due("HURRY", x.person(0, 7), 5);
    Check.due("clock(1, false)", x.clock(1, false), 1);
    Check.due("told(5)", x.told(5), 1);
    Check.due("clock(2, true)", x.clock(2, true), Check.UNKNOWN);
    Check.due("clock(-1, true)", x.clock(-1, true), Check.UNKNOWN);
  }

  /** Promise 14. */
  private static void miles() {
    HasteRoads x = Check.land("p0;p1;r0 1 7;");
    Check.due("miles(0, 20)", x.miles(0, 20), 7);
    Check.due("miles(0, 1)", x.miles(0, 1), 20);
    Check.due("miles(0, 0)", x.miles(0, 0), Check.OUTSIDE);
    Check.due("miles(0, 21)", x.miles(0, 21), Check.OUTSIDE);
    Check.due("miles(1, 0)", x.miles(1, 0), Check.UNKNOWN);
    Check.due("miles(-1, 5)", x.miles(-1, 5), Check.UNKNOWN);
    Check.due("road(0, 2)", x.road(0, 2), 1);
  }

  /** Promise 15: the first DRAWS from SEED 0 are worked out here. */
  private static void drift() {
    HasteRoads x = Check.land("p1;p0;r0 1 7;r1 0 2;m0 1 4 3 50;m1 0 2 0 50;");
    Check.due("drift(0)", x.drift(0), Check.OUTSIDE);
    Check.due("drift(100)", x.drift(100), Check.OUTSIDE);
    long seed = 0;
    int[] draws = new int[3];
    for (int i = 0; i < 3; i++) {
      seed = (seed * 1103515245L + 12345L) % (1L << 31);
      draws[i] = (int) (seed / 65536);
    }
    int p = draws[0] % 2;
    int way = draws[1] % 3;
    int spend = way == 2 ? 0 : draws[2] % (x.person(p, 3) + 1);
    int minute = way == 2 ? 1 : x.takes(p, way, x.person(p, 0), 0, spend);
    Check.due("drift(1)", x.drift(1), minute);
    Check.due("its MINUTE", x.person(p, 6), minute);
    Check.due("the other's MINUTE", x.person(1 - p, 6), 0);
    HasteRoads none = Check.land("p1;");
    Check.due("drift(1) of nobody", none.drift(1), Check.NOT);
    Check.due("drift(0) of nobody", none.drift(0), Check.OUTSIDE);
    Check.due("THE SEED of nobody", none.seed(0), 0);
    driftEnds();
  }

  /** Above 9000 there is the DRAW of PERSONS alone. */
  private static void driftEnds() {
    HasteRoads x = Check.land("p1;m0 0 0 0 0;");
    for (int i = 0; i < 9; i++) x.await(0, 999);
    x.await(0, 9);
    Check.due("drift(3) from 9000", x.drift(3), 9001);
    long seed = 0;
    for (int i = 0; i < 4; i++) seed = (seed * 1103515245L + 12345L) % (1L << 31);
    Check.due("THE SEED after four DRAWS", x.seed(0), seed);
  }
}
