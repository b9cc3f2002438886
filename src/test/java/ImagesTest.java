/** Promises 33 to 35: THE SEED and IMAGES. */
public final class ImagesTest {
  public static void main(String[] args) {
    seed();
    keepAndGoBack();
    whatImagesLeave();
    Check.end("ImagesTest");
  }

  /** Promise 33. */
  private static void seed() {
    HasteRoads x = new HasteRoads();
    Check.due("seed(2147483647)", x.seed(2147483647), 0);
    Check.due("seed(-1)", x.seed(-1), Check.OUTSIDE);
    Check.due("seed(MIN)", x.seed(Integer.MIN_VALUE), Check.OUTSIDE);
    Check.due("seed(0)", x.seed(0), 2147483647);
    Check.due("seed(0)", x.seed(0), 0);
  }

  /** Promises 34 and 35. */
  private static void keepAndGoBack() {
    HasteRoads x = Check.land("p1;p0;r0 1 7;m0 1 4 3 50;");
    Check.due("keep(2)", x.keep(2), Check.UNKNOWN);
    Check.due("keep(-1)", x.keep(-1), Check.UNKNOWN);
    Check.due("goBack(2)", x.goBack(2), Check.UNKNOWN);
    Check.due("goBack(-1)", x.goBack(-1), Check.UNKNOWN);
    Check.due("goBack(0)", x.goBack(0), Check.NOT);
    x.seed(9);
    Check.due("keep(0)", x.keep(0), 1);
    Check.due("goBack(1)", x.goBack(1), Check.NOT);
    x.go(0, 0, 2);
    x.load(0, 5);
    x.inn(0, false);
    x.clock(1, true);
    x.miles(0, 3);
    x.seed(11);
    Check.due("keep(1)", x.keep(1), 1);
    Check.due("goBack(0)", x.goBack(0), 1);
    int[] first = {0, 1, 4, 3, 50, 0, 0, 4};
    for (int what = 0; what <= 7; what++) Check.due("person(0, " + what + ")", x.person(0, what), first[what]);
    Check.due("INNS", x.told(4), 1);
    Check.due("CLOCKS", x.told(5), 0);
    Check.due("miles", x.road(0, 2), 7);
    Check.due("THE SEED", x.seed(1), 9);
    Check.due("goBack(1)", x.goBack(1), 1);
    int[] second = {1, 1, 4, 1, 50, 5, 14, 10};
    for (int what = 0; what <= 7; what++) Check.due("person(0, " + what + ")", x.person(0, what), second[what]);
    Check.due("INNS", x.told(4), 0);
    Check.due("CLOCKS", x.told(5), 2);
    Check.due("miles", x.road(0, 2), 3);
    Check.due("THE SEED", x.seed(1), 11);
    x.await(0, 5);
    Check.due("goBack(1) again", x.goBack(1), 1);
    Check.due("MINUTE", x.person(0, 6), 14);
    Check.due("keep(0) again", x.keep(0), 1);
    x.await(0, 5);
    Check.due("goBack(0), the later one", x.goBack(0), 1);
    Check.due("MINUTE", x.person(0, 6), 14);
  }

  /** IMAGES keep nothing of TOOK, THE BOOK and THE TEXT. */
  private static void whatImagesLeave() {
    HasteRoads x = Check.land("p1;p0;r0 1 7;m0 1 4 3 50;");
    x.keep(0);
    x.took(0, 0, 0, 0, 5);
    x.write(-2);
    x.feed(65);
    x.goBack(0);
    Check.due("told(3)", x.told(3), 1);
    Check.due("told(6)", x.told(6), 1);
    Check.due("told(7)", x.told(7), 1);
  }
}
