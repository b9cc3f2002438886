/**
 * All that later calls show of an object, as one text: what is so, THE SEED, TOOK, THE BOOK, both IMAGES and THE TEXT.
 *
 * The object is spent by it. It takes some 200 calls, so that an object with some before is still within its 512.
 */
final class Picture {
  private Picture() {
  }

  static String of(HasteRoads x) {
    StringBuilder all = new StringBuilder();
    all.append("told");
    for (int what = 0; what <= 7; what++) add(all, x.told(what));
    all.append(" fault");
    add(all, x.fault());
    now(all, x);
    toldOf(all, x);
    all.append(" drift");
    add(all, x.drift(9));
    for (int image = 0; image <= 1; image++) {
      all.append(" IMAGE").append(image);
      add(all, x.goBack(image));
      now(all, x);
    }
    all.append(" land");
    add(all, x.land());
    add(all, x.fault());
    for (int what = 0; what <= 2; what++) add(all, x.told(what));
    return all.toString();
  }

  private static void now(StringBuilder all, HasteRoads x) {
    all.append(" INNS");
    add(all, x.told(4));
    all.append(" CLOCKS");
    add(all, x.told(5));
    int roads = x.told(1);
    for (int r = 0; r < roads; r++) {
      all.append(" r").append(r);
      for (int what = 0; what <= 2; what++) add(all, x.road(r, what));
    }
    int persons = x.told(2);
    for (int p = 0; p < persons; p++) {
      all.append(" m").append(p);
      for (int what = 0; what <= 7; what++) add(all, x.person(p, what));
    }
    all.append(" SEED");
    int seed = x.seed(0);
    add(all, seed);
    x.seed(seed);
  }

  private static void toldOf(StringBuilder all, HasteRoads x) {
    all.append(" TOOK");
    int took = x.told(6);
    for (int i = 0; i < took; i++) add(all, x.spent(i));
    add(all, x.lie());
    all.append(" BOOK");
    int persons = x.told(2);
    for (int p = 0; p < persons; p++) {
      add(all, x.judge(p, 0));
      add(all, x.judge(p, 1));
    }
  }

  private static void add(StringBuilder all, int answer) {
    all.append(' ').append(answer);
  }
}
