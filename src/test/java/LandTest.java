/** Promises 2 to 8: THE TEXT and its FAULTS, and what is told of THE LAND. */
public final class LandTest {
  private static final String SIX = "p0;p0;p0;p0;p0;p0;";

  public static void main(String[] args) {
    feed();
    lands();
    faults();
    faultChangesNothing();
    landClears();
    told();
    roads();
    persons();
    takes();
    Check.end("LandTest");
  }

  /** Promise 2. */
  private static void feed() {
    HasteRoads x = new HasteRoads();
    Check.due("feed(-1)", x.feed(-1), Check.OUTSIDE);
    Check.due("feed(256)", x.feed(256), Check.OUTSIDE);
    Check.due("feed(MIN)", x.feed(Integer.MIN_VALUE), Check.OUTSIDE);
    Check.due("feed(MAX)", x.feed(Integer.MAX_VALUE), Check.OUTSIDE);
    Check.due("told(3)", x.told(3), 0);
    Check.due("feed(0)", x.feed(0), 1);
    Check.due("feed(255)", x.feed(255), 2);
    for (int i = 3; i <= 250; i++) Check.due("feed(32) " + i, x.feed(32), i);
    Check.due("feed(32), the 251st", x.feed(32), Check.FULL);
    Check.due("feed(256), the 251st", x.feed(256), Check.OUTSIDE);
    Check.due("told(3)", x.told(3), 250);
    Check.due("land()", x.land(), -11);
    Check.due("fault()", x.fault(), 0);
    Check.due("told(3)", x.told(3), 0);
    Check.due("feed(32)", x.feed(32), 1);
  }

  private static void lands(String text, int places) {
    HasteRoads x = new HasteRoads();
    Check.feed(x, text);
    Check.due("land() of " + text, x.land(), places);
    Check.due("fault() of " + text, x.fault(), Check.NONE);
    Check.due("told(3) of " + text, x.told(3), 0);
  }

  /** Promises 3 and 4, texts without a FAULT. */
  private static void lands() {
    lands("", 0);
    lands("   ", 0);
    lands("p0;", 1);
    lands("p001;", 1);
    lands("  p 0 ; p1 ;", 2);
    lands(SIX, 6);
    lands("p0;p0;r0 1 1;r1 0 20;r00 001 020;", 2);
    lands("p0;m0 0 0 0 0;m0 0 9 5 999;m0 0 0 0 0;m0 0 0 0 0;", 1);
    lands("p0;p0;c0;c1;", 2);
    lands("p0;c0;p1;c1;r0 1 5;p0;r2 0 3;", 3);
    lands("p0;p0;" + "r0 1 3;".repeat(9), 2);
  }

  private static void faulty(String text, int number, int at) {
    HasteRoads x = new HasteRoads();
    Check.feed(x, text);
    Check.due("land() of " + text, x.land(), -10 - number);
    Check.due("fault() of " + text, x.fault(), at);
    Check.due("told(3) of " + text, x.told(3), 0);
    Check.due("told(0) of " + text, x.told(0), 0);
  }

  /** Promises 3 and 4, FAULTS: of the first letter that has one the least. */
  private static void faults() {
    faulty("x", 1, 0);
    faulty("P0;", 1, 0);
    faulty(";", 1, 0);
    faulty("0", 1, 0);
    faulty("1234", 1, 0);
    faulty("\t", 1, 0);
    faulty("" + (char) 0, 1, 0);
    faulty("p", 1, 1);
    faulty("p  ", 1, 3);
    faulty("p0", 1, 2);
    faulty("p0 ", 1, 3);
    faulty("pp", 1, 1);
    faulty("p-1;", 1, 1);
    faulty("p0 0;", 1, 3);
    faulty("p0 1234;", 1, 3);
    faulty("p0p", 1, 2);
    faulty("p0;;", 1, 3);
    faulty("p2;", 2, 1);
    faulty("p 10", 2, 2);
    faulty("p0000;", 2, 1);
    faulty("p1234567890123;", 2, 1);
    faulty("p00001", 2, 1);
    faulty(SIX + "p", 3, 18);
    faulty(SIX + " p0;", 3, 19);
    faulty(SIX + "p9;", 3, 18);
    faulty("c0;", 2, 1);
    faulty("p0;c1;", 2, 4);
    faulty("p0;c0;c0;", 4, 7);
    faulty("p0;c0;c 0", 4, 8);
    faulty("p0;c0;c0001;", 2, 7);
    faulty("r", 1, 1);
    faulty("r0", 2, 1);
    faulty("r;", 1, 1);
    faulty("p0;p0;r0 0 1;", 4, 9);
    faulty("p0;p0;r0 0", 4, 9);
    faulty("p0;p0;r0  00 99;", 4, 10);
    faulty("p0;p0;r0 2 1;", 2, 9);
    faulty("p0;p0;r2 2 1;", 2, 7);
    faulty("p0;p0;r0 1 0;", 2, 11);
    faulty("p0;p0;r0 1 21;", 2, 11);
    faulty("p0;p0;r0 1;", 1, 10);
    faulty("p0;p0;r01 5;", 2, 10);
    faulty("p0;p0;r01 0;", 1, 11);
    faulty("p0;p0;r0 1 5 5;", 1, 13);
    faulty("p0;p0;" + "r0 1 3;".repeat(9) + "r", 3, 69);
    faulty("p0;p0;" + "r0 1 3;".repeat(9) + "r0 0 3;", 3, 69);
    faulty("p0;m1 0 0 0 0;", 2, 4);
    faulty("p0;m0 1 0 0 0;", 2, 6);
    faulty("p0;m0 0 10 0 0;", 2, 8);
    faulty("p0;m0 0 0 6 0;", 2, 10);
    faulty("p0;m0 0 0 0 1000;", 2, 12);
    faulty("p0;m0 0 0 0;", 1, 11);
    faulty("p0;m0 0 0 0 0", 1, 13);
    faulty("p0;" + "m0 0 0 0 0;".repeat(4) + "m", 3, 47);
    faulty("p0;r0 1 2;p0;", 2, 6);
    faulty("p0" + (char) 160 + ";", 1, 2);
    faulty("p" + (char) 178 + ";", 1, 1);
  }

  /** Promise 3: with a FAULT all is as it was, but THE TEXT is empty. */
  private static void faultChangesNothing() {
    HasteRoads x = Check.land("p1;p0;r0 1 7;m0 1 4 2 50;c1;");
    x.await(0, 2);
    x.load(0, 3);
    x.took(0, 0, 0, 0, 5);
    x.write(-2);
    x.keep(1);
    x.seed(77);
    Check.feed(x, "p1;p1;p1;r0 1 9;m2 2 1 1 1;c2;z");
    Check.due("land()", x.land(), -11);
    Check.due("fault()", x.fault(), 30);
    int[] told = {2, 1, 1, 0, 1, 2, 1, 1};
    for (int what = 0; what <= 7; what++) Check.due("told(" + what + ")", x.told(what), told[what]);
    int[] person = {0, 1, 4, 4, 50, 3, 2, 7};
    for (int what = 0; what <= 7; what++) Check.due("person(0, " + what + ")", x.person(0, what), person[what]);
    Check.due("road(0, 2)", x.road(0, 2), 7);
    Check.due("seed(0)", x.seed(0), 77);
    Check.due("goBack(1)", x.goBack(1), 1);
    Check.due("seed(0)", x.seed(0), 0);
    Check.due("land() of nothing", x.land(), 0);
    Check.due("fault() then", x.fault(), Check.NONE);
  }

  /** Promise 3: nothing TOOK, no BOOK, IMAGES are gone, THE SEED stays, all as told. */
  private static void landClears() {
    HasteRoads x = Check.land("p1;p0;r0 1 7;m0 1 4 2 50;c1;");
    x.await(0, 2);
    x.load(0, 3);
    x.took(0, 0, 0, 0, 5);
    x.write(-2);
    x.keep(0);
    x.keep(1);
    x.seed(77);
    Check.feed(x, "p0;p1;p0;r2 1 9;m2 1 1 1 1;m0 0 0 0 0;c0;");
    Check.due("land()", x.land(), 3);
    int[] told = {3, 1, 2, 0, 2, 1, 0, 0};
    for (int what = 0; what <= 7; what++) Check.due("told(" + what + ")", x.told(what), told[what]);
    int[] person = {2, 1, 1, 1, 1, 0, 0, 2};
    for (int what = 0; what <= 7; what++) Check.due("person(0, " + what + ")", x.person(0, what), person[what]);
    Check.due("goBack(0)", x.goBack(0), Check.NOT);
    Check.due("goBack(1)", x.goBack(1), Check.NOT);
    Check.due("seed(0)", x.seed(0), 77);
  }

  /** Promise 5. */
  private static void told() {
    HasteRoads x = Check.land("p1;p0;p1;r0 1 7;m0 1 4 2 50;c1;c2;");
    x.feed(65);
    int[] told = {3, 1, 1, 1, 5, 6, 0, 0};
    for (int what = 0; what <= 7; what++) Check.due("told(" + what + ")", x.told(what), told[what]);
    Check.due("told(-1)", x.told(-1), Check.OUTSIDE);
    Check.due("told(8)", x.told(8), Check.OUTSIDE);
  }

  /** Promise 6. */
  private static void roads() {
    HasteRoads x = Check.land("p1;p0;p1;r2 1 7;r0 2 20;");
    Check.due("road(0, 0)", x.road(0, 0), 2);
    Check.due("road(0, 1)", x.road(0, 1), 1);
    Check.due("road(0, 2)", x.road(0, 2), 7);
    Check.due("road(1, 0)", x.road(1, 0), 0);
    Check.due("road(1, 2)", x.road(1, 2), 20);
    Check.due("road(0, 3)", x.road(0, 3), Check.OUTSIDE);
    Check.due("road(0, -1)", x.road(0, -1), Check.OUTSIDE);
    Check.due("road(2, 0)", x.road(2, 0), Check.UNKNOWN);
    Check.due("road(-1, 9)", x.road(-1, 9), Check.UNKNOWN);
    Check.due("road(MAX, 0)", x.road(Integer.MAX_VALUE, 0), Check.UNKNOWN);
  }

  /** Promise 7, HURRY by the minutes that are left. */
  private static void persons() {
    HasteRoads x = Check.land("p1;p0;r0 1 7;m0 1 4 2 50;m1 1 0 0 9;c1;");
    int[] first = {0, 1, 4, 2, 50, 0, 0, 4};
    int[] second = {1, 1, 0, 0, 9, 0, 0, 2};
    for (int what = 0; what <= 7; what++) {
      Check.due("person(0, " + what + ")", x.person(0, what), first[what]);
      Check.due("person(1, " + what + ")", x.person(1, what), second[what]);
    }
    x.load(0, 9);
    Check.due("HURRY with a LOAD", x.person(0, 7), 13);
    x.await(0, 40);
    Check.due("HURRY, ten left", x.person(0, 7), 13);
    x.await(0, 1);
    Check.due("HURRY, nine left", x.person(0, 7), 14);
    x.await(0, 9);
    Check.due("HURRY at T", x.person(0, 7), 14);
    x.await(0, 1);
    Check.due("HURRY late", x.person(0, 7), 16);
    Check.due("person(0, 8)", x.person(0, 8), Check.OUTSIDE);
    Check.due("person(0, -1)", x.person(0, -1), Check.OUTSIDE);
    Check.due("person(2, 0)", x.person(2, 0), Check.UNKNOWN);
    Check.due("person(-1, 8)", x.person(-1, 8), Check.UNKNOWN);
  }

  /** Promise 8. */
  private static void takes() {
    HasteRoads x = Check.land("p1;p0;p0;r0 1 7;m0 1 4 0 50;c1;");
    Check.due("7 miles, HURRY 4", x.takes(0, 0, 0, 0, 0), 21);
    Check.due("7 miles, HURRY 3, cut upwards", x.takes(0, 0, 0, 0, 1), 18);
    Check.due("7 miles, HURRY 0", x.takes(0, 0, 0, 0, 4), 7);
    Check.due("7 miles, HURRY 0 at least", x.takes(0, 0, 0, 0, 5), 7);
    Check.due("from the CLOCK", x.takes(0, 0, 1, 0, 0), 25);
    Check.due("ten left", x.takes(0, 0, 0, 40, 0), 21);
    Check.due("nine left", x.takes(0, 0, 0, 41, 0), 25);
    Check.due("none left", x.takes(0, 0, 0, 50, 0), 25);
    Check.due("late", x.takes(0, 0, 0, 51, 0), 32);
    Check.due("late at the last minute", x.takes(0, 0, 1, 99999, 5), 18);
    Check.due("takes(0, 0, 2, 0, 0)", x.takes(0, 0, 2, 0, 0), Check.NOT);
    Check.due("takes(0, 0, 0, -1, 0)", x.takes(0, 0, 0, -1, 0), Check.OUTSIDE);
    Check.due("takes(0, 0, 0, 100000, 0)", x.takes(0, 0, 0, 100000, 0), Check.OUTSIDE);
    Check.due("takes(0, 0, 0, 0, 6)", x.takes(0, 0, 0, 0, 6), Check.OUTSIDE);
    Check.due("takes(0, 0, 2, 0, -1)", x.takes(0, 0, 2, 0, -1), Check.OUTSIDE);
    Check.due("takes(1, 0, 0, 0, 9)", x.takes(1, 0, 0, 0, 9), Check.UNKNOWN);
    Check.due("takes(0, 1, 0, 0, 0)", x.takes(0, 1, 0, 0, 0), Check.UNKNOWN);
    Check.due("takes(0, 0, 3, 0, 9)", x.takes(0, 0, 3, 0, 9), Check.UNKNOWN);
    Check.due("takes(0, 0, -1, 0, 0)", x.takes(0, 0, -1, 0, 0), Check.UNKNOWN);
    x.load(0, 9);
    x.miles(0, 20);
    Check.due("as LOAD and miles are now", x.takes(0, 0, 1, 51, 0), 190);
  }
}
