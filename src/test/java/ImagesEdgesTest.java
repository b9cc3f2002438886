/** The edges of promises 33 to 35, sentence by sentence. */
public final class ImagesEdgesTest {
  public static void main(String[] args) {
    seed();
    keepBounds();
    notKept();
    eachPart();
    twoImages();
    keptAgain();
    gone();
    leaves();
    Check.end("ImagesEdgesTest");
  }

  /** Promise 33. */
  private static void seed() {
    Check.says(33, "THE SEED becomes v (0 .. 2147483647): what it was");
    HasteRoads x = new HasteRoads();
    Check.due("seed(2147483647), 0 at first", x.seed(2147483647), 0);
    Check.due("seed(-1)", x.seed(-1), Check.OUTSIDE);
    Check.due("seed(-2147483648)", x.seed(Integer.MIN_VALUE), Check.OUTSIDE);
    Check.due("seed(0)", x.seed(0), 2147483647);
    Check.due("seed(1)", x.seed(1), 0);
    Check.due("seed(1)", x.seed(1), 1);
  }

  /** Promises 34 and 35: IMAGES 0 and 1 alone. */
  private static void keepBounds() {
    Check.says(34, "IMAGE i becomes what is so: 1. UNKNOWN");
    HasteRoads x = new HasteRoads();
    Check.due("keep(-1)", x.keep(-1), Check.UNKNOWN);
    Check.due("keep(0), no PLACES", x.keep(0), 1);
    Check.due("keep(1), no PLACES", x.keep(1), 1);
    Check.due("keep(2)", x.keep(2), Check.UNKNOWN);
    Check.due("keep(0) again", x.keep(0), 1);
    Check.says(35, "What is so becomes IMAGE i: 1. UNKNOWN");
    Check.due("goBack(-1)", x.goBack(-1), Check.UNKNOWN);
    Check.due("goBack(0)", x.goBack(0), 1);
    Check.due("goBack(1)", x.goBack(1), 1);
    Check.due("goBack(2)", x.goBack(2), Check.UNKNOWN);
    Check.due("goBack(0) again", x.goBack(0), 1);
  }

  /** Promise 35: NOT. */
  private static void notKept() {
    Check.says(35, "NOT: it was not kept");
    HasteRoads x = Check.land("p0;m0 0 0 0 0;");
    Check.due("goBack(0)", x.goBack(0), Check.NOT);
    Check.due("goBack(1)", x.goBack(1), Check.NOT);
    x.keep(1);
    x.await(0, 5);
    Check.due("goBack(0)", x.goBack(0), Check.NOT);
    Check.due("MINUTE", x.person(0, 6), 5);
    Check.due("goBack(1)", x.goBack(1), 1);
    Check.due("MINUTE", x.person(0, 6), 0);
  }

  /** Promises 34 and 35: each of what an IMAGE keeps, of all PERSONS, PLACES and ROADS. */
  private static void eachPart() {
    Check.says(35, "IMAGES keep MINUTES, PLACES, CALM, LOADS of all, INNS, CLOCKS, miles, THE SEED");
    HasteRoads x = Check.land("p1;p0;r0 1 7;r0 1 8;m0 1 4 3 50;m1 0 4 4 50;m0 0 4 5 50;m1 1 4 2 50;c0;");
    x.seed(9);
    x.keep(0);
    for (int p = 0; p < 4; p++) {
      x.go(p, p % 2, 1);
      x.load(p, 5 + p);
    }
    x.inn(0, false);
    x.inn(1, true);
    x.clock(0, false);
    x.clock(1, true);
    x.miles(0, 1);
    x.miles(1, 20);
    x.seed(11);
    Check.due("goBack(0)", x.goBack(0), 1);
    for (int p = 0; p < 4; p++) {
      Check.due("PLACE of " + p, x.person(p, 0), p % 2);
      Check.due("CALM of " + p, x.person(p, 3), new int[] {3, 4, 5, 2}[p]);
      Check.due("LOAD of " + p, x.person(p, 5), 0);
      Check.due("MINUTE of " + p, x.person(p, 6), 0);
    }
    Check.due("INNS", x.told(4), 1);
    Check.due("CLOCKS", x.told(5), 1);
    Check.due("miles of 0", x.road(0, 2), 7);
    Check.due("miles of 1", x.road(1, 2), 8);
    Check.due("THE SEED", x.seed(0), 9);
  }

  /** Promises 34 and 35: an IMAGE stays as it is, whatever the other one or what is so becomes. */
  private static void twoImages() {
    Check.says(34, "IMAGES 0, 1");
    HasteRoads x = Check.land("p0;m0 0 0 0 0;");
    x.await(0, 1);
    x.keep(0);
    x.await(0, 1);
    x.keep(1);
    x.await(0, 1);
    int[] order = {0, 1, 1, 0, 0, 1};
    for (int i : order) {
      x.goBack(i);
      Check.due("MINUTE of IMAGE " + i, x.person(0, 6), i + 1);
      x.await(0, 100);
    }
  }

  /** Promise 34: the later one takes the place of the earlier one. */
  private static void keptAgain() {
    Check.says(34, "IMAGE i becomes what is so (again)");
    HasteRoads x = Check.land("p0;m0 0 0 0 0;");
    x.keep(0);
    x.keep(1);
    x.await(0, 7);
    x.keep(0);
    x.await(0, 7);
    x.goBack(0);
    Check.due("MINUTE of IMAGE 0", x.person(0, 6), 7);
    x.goBack(1);
    Check.due("MINUTE of IMAGE 1", x.person(0, 6), 0);
  }

  /** Promises 3 and 35: land() ends them, a FAULT does not. */
  private static void gone() {
    Check.says(35, "NOT: it was not kept (IMAGES are gone with a land)");
    HasteRoads x = Check.land("p0;m0 0 0 0 0;");
    x.keep(0);
    x.keep(1);
    x.feed('x');
    x.land();
    Check.due("goBack(0) behind a FAULT", x.goBack(0), 1);
    Check.due("goBack(1) behind a FAULT", x.goBack(1), 1);
    Check.feed(x, "p0;m0 0 0 0 0;");
    x.land();
    Check.due("goBack(0) behind a land", x.goBack(0), Check.NOT);
    Check.due("goBack(1) behind a land", x.goBack(1), Check.NOT);
    x.keep(0);
    x.land();
    Check.due("goBack(0) behind an empty text", x.goBack(0), Check.NOT);
  }

  /** Promise 35: what no IMAGE keeps stays as it is. */
  private static void leaves() {
    Check.says(35, "IMAGES keep .. (not THE TEXT, TOOK, THE BOOK, the FAULT)");
    HasteRoads x = Check.land("p1;p0;r0 1 7;m0 1 4 3 50;");
    x.keep(0);
    for (int i = 0; i < 20; i++) x.took(0, 0, 0, 0, 20);
    for (int i = 0; i < 30; i++) x.write(-2);
    x.feed('x');
    x.land();
    Check.feed(x, "p0;");
    x.goBack(0);
    Check.due("told(3)", x.told(3), 3);
    Check.due("told(6)", x.told(6), 20);
    Check.due("told(7)", x.told(7), 30);
    Check.due("fault()", x.fault(), 0);
    Check.due("lie()", x.lie(), 0);
    Check.due("land()", x.land(), 1);
    HasteRoads y = Check.land("p1;p0;r0 1 7;m0 1 4 3 50;");
    y.took(0, 0, 0, 0, 20);
    y.write(-2);
    y.keep(0);
    y.tear();
    y.goBack(0);
    Check.due("told(6), torn since", y.told(6), 0);
    Check.due("told(7), torn since", y.told(7), 0);
  }
}
