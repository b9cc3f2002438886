/** The edges of promises 27 to 32, sentence by sentence: the last that is taken, the first that is not. */
public final class ToldEdgesTest {
  public static void main(String[] args) {
    tookBounds();
    tookFull();
    spentSets();
    spentBounds();
    spentAsNow();
    spentHurry();
    lie();
    writeBounds();
    writeFull();
    tear();
    judgeWrong();
    judgeMinute();
    judgeEachStep();
    judgeFromNow();
    judgeBounds();
    Check.end("ToldEdgesTest");
  }

  private static HasteRoads land() {
    return Check.land("p0;p0;p0;r0 1 7;r1 2 4;m0 1 4 0 50;m2 1 0 0 50;");
  }

  /** Promise 27. */
  private static void tookBounds() {
    HasteRoads x = land();
    Check.says(27, "at a minute (0 .. 999)");
    Check.due("minute -1", x.took(0, 0, 0, -1, 5), Check.OUTSIDE);
    Check.due("minute 0", x.took(0, 0, 0, 0, 5), 1);
    Check.due("minute 999", x.took(0, 0, 0, 999, 5), 2);
    Check.due("minute 1000", x.took(0, 0, 0, 1000, 5), Check.OUTSIDE);
    Check.says(27, "took so long (1 .. 999)");
    Check.due("0 minutes", x.took(0, 0, 0, 0, 0), Check.OUTSIDE);
    Check.due("1 minute", x.took(0, 0, 0, 0, 1), 3);
    Check.due("999 minutes", x.took(0, 0, 0, 0, 999), 4);
    Check.due("1000 minutes", x.took(0, 0, 0, 0, 1000), Check.OUTSIDE);
    Check.says(27, "NOT: the ROAD does not lead from there");
    Check.due("from its A", x.took(0, 1, 1, 0, 5), 5);
    Check.due("from its B", x.took(0, 1, 2, 0, 5), 6);
    Check.due("from neither", x.took(0, 1, 0, 0, 5), Check.NOT);
    Check.due("wherever it is now", x.took(1, 0, 0, 0, 5), 7);
    Check.due("told(6)", x.told(6), 7);
    Check.due("nobody has moved", x.person(0, 6) + x.person(1, 6), 0);
  }

  /** Promise 27: the 20th and the 21st. */
  private static void tookFull() {
    Check.says(27, "TOOK (20 at most): how much is told");
    HasteRoads x = land();
    for (int i = 1; i <= 20; i++) Check.due("time " + i, x.took(0, 0, 0, 0, i == 20 ? 21 : 20), i);
    Check.due("the 21st", x.took(0, 0, 0, 0, 18), Check.FULL);
    Check.due("told(6)", x.told(6), 20);
    Check.due("spent(19), the last one", x.spent(19), 1);
    Check.due("spent(20)", x.spent(20), Check.NONE);
    x.tear();
    Check.due("from the beginning again", x.took(0, 0, 0, 0, 18), 1);
    Check.due("spent(0)", x.spent(0), 2);
    Check.due("spent(1)", x.spent(1), Check.NONE);
  }

  /** Promise 28: SETS from none to all six. */
  private static void spentSets() {
    Check.says(28, "which s (a SET of 0 to 5, whatever CALM it had)");
    HasteRoads x = Check.land("p0;p0;r0 1 2;m0 1 9 0 99;m0 1 0 0 99;m0 1 4 0 99;");
    for (int s = 0; s <= 5; s++) x.took(0, 0, 0, 0, 11 - s);
    for (int s = 0; s <= 5; s++) Check.due("s " + s + " alone", x.spent(s), 1 << s);
    x.took(0, 0, 0, 0, 12);
    Check.due("longer than with s 0", x.spent(6), 0);
    x.took(0, 0, 0, 0, 5);
    Check.due("shorter than with s 5", x.spent(7), 0);
    x.took(1, 0, 0, 0, 2);
    Check.due("HURRY 0: any", x.spent(8), 63);
    x.took(2, 0, 0, 0, 2);
    Check.due("HURRY 4: 4 and 5", x.spent(9), 48);
  }

  /** Promise 28: i. */
  private static void spentBounds() {
    Check.says(28, "of what was told at i; NONE: not so many");
    HasteRoads x = land();
    Check.due("spent(0) of nothing", x.spent(0), Check.NONE);
    x.took(0, 0, 0, 0, 21);
    Check.due("spent(0)", x.spent(0), 1);
    Check.due("spent(1)", x.spent(1), Check.NONE);
    Check.due("spent(-1)", x.spent(-1), Check.NONE);
    Check.due("spent(20)", x.spent(20), Check.NONE);
    Check.due("spent(MAX)", x.spent(Integer.MAX_VALUE), Check.NONE);
    Check.due("spent(MIN)", x.spent(Integer.MIN_VALUE), Check.NONE);
  }

  /** Promise 28: what counts is how it is now. */
  private static void spentAsNow() {
    Check.says(28, "LOAD, CLOCKS as now");
    HasteRoads x = land();
    x.took(0, 0, 0, 0, 21);
    x.load(0, 5);
    Check.due("LOAD 5", x.spent(0), 32);
    x.load(0, 6);
    Check.due("LOAD 6", x.spent(0), 0);
    x.load(0, 0);
    x.clock(1, true);
    Check.due("a CLOCK where it came", x.spent(0), 1);
    x.clock(0, true);
    Check.due("a CLOCK where it left", x.spent(0), 2);
    x.go(0, 0, 0);
    x.await(0, 99);
    Check.due("not its PLACE, not its MINUTE", x.spent(0), 2);
  }

  /** Promise 28: HURRY by the minute at which it left. */
  private static void spentHurry() {
    Check.says(28, "a PERSON left a PLACE by a ROAD at a minute");
    HasteRoads x = land();
    x.took(0, 0, 0, 40, 21);
    x.took(0, 0, 0, 41, 25);
    x.took(0, 0, 0, 50, 25);
    x.took(0, 0, 0, 51, 32);
    Check.due("10 left", x.spent(0), 1);
    Check.due("9 left", x.spent(1), 1);
    Check.due("none left", x.spent(2), 1);
    Check.due("late", x.spent(3), 1);
    HasteRoads y = Check.land("p0;p0;" + "r0 1 2;".repeat(8) + "r1 0 4;m0 1 0 0 99;m0 1 9 0 99;c1;");
    y.took(1, 8, 1, 0, 24);
    y.took(1, 8, 0, 0, 22);
    y.took(1, 7, 1, 0, 12);
    y.took(0, 7, 1, 0, 3);
    for (int i = 0; i < 4; i++) Check.due("the PERSON, the ROAD, the PLACE of " + i, y.spent(i), 1);
  }

  /** Promise 29. */
  private static void lie() {
    Check.says(29, "LIE: the first for which it is empty; NONE");
    HasteRoads x = land();
    Check.due("lie() of nothing", x.lie(), Check.NONE);
    for (int i = 0; i < 19; i++) x.took(0, 0, 0, 0, 7);
    Check.due("lie(), 19 that can be", x.lie(), Check.NONE);
    x.took(0, 0, 0, 0, 8);
    Check.due("lie(), the last of 20", x.lie(), 19);
    x.took(0, 0, 0, 0, 8);
    Check.due("lie() behind a 21st", x.lie(), 19);
    x.tear();
    Check.due("lie() behind tear()", x.lie(), Check.NONE);
    x.took(0, 0, 0, 0, 8);
    x.took(0, 0, 0, 0, 9);
    Check.due("lie(), the first of two", x.lie(), 0);
  }

  /** Promise 30. */
  private static void writeBounds() {
    Check.says(30, "A step behind THE BOOK (-2, 0 .. 95: the last figure 0 .. 5): how many");
    HasteRoads x = Check.land("p0;p0;" + "r0 1 5;".repeat(9));
    Check.due("write(-2)", x.write(-2), 1);
    Check.due("write(-1)", x.write(-1), Check.OUTSIDE);
    Check.due("write(-3)", x.write(-3), Check.OUTSIDE);
    Check.due("write(-10)", x.write(-10), Check.OUTSIDE);
    Check.due("write(-20)", x.write(-20), Check.OUTSIDE);
    Check.due("write(0)", x.write(0), 2);
    Check.due("write(5)", x.write(5), 3);
    Check.due("write(6)", x.write(6), Check.OUTSIDE);
    Check.due("write(9)", x.write(9), Check.OUTSIDE);
    Check.due("write(10)", x.write(10), 4);
    Check.due("write(80)", x.write(80), 5);
    Check.due("write(85)", x.write(85), 6);
    Check.due("write(86)", x.write(86), Check.OUTSIDE);
    Check.due("told(7)", x.told(7), 6);
    Check.says(30, "UNKNOWN (the ROAD)");
    Check.due("write(90), a tenth ROAD", x.write(90), Check.UNKNOWN);
    Check.due("write(95)", x.write(95), Check.UNKNOWN);
    HasteRoads one = Check.land("p0;p0;r0 1 5;");
    Check.due("write(5)", one.write(5), 1);
    Check.due("write(10)", one.write(10), Check.UNKNOWN);
    Check.due("write(19), UNKNOWN ahead of OUTSIDE", one.write(19), Check.UNKNOWN);
    HasteRoads none = Check.land("p0;");
    Check.due("write(0), no ROADS", none.write(0), Check.UNKNOWN);
    Check.due("write(6), no ROADS", none.write(6), Check.UNKNOWN);
    Check.due("write(-1), no ROADS", none.write(-1), Check.OUTSIDE);
    Check.due("write(-2), no ROADS", none.write(-2), 1);
  }

  /** Promise 30: the 30th and the 31st. */
  private static void writeFull() {
    Check.says(30, "THE BOOK (30 at most)");
    HasteRoads x = land();
    for (int i = 1; i <= 30; i++) Check.due("time " + i, x.write(-2), i);
    Check.due("the 31st", x.write(-2), Check.FULL);
    Check.due("told(7)", x.told(7), 30);
    Check.due("judge(0, 1)", x.judge(0, 1), 30);
    x.tear();
    Check.due("from the beginning again", x.write(0), 1);
    Check.due("judge(0, 1)", x.judge(0, 1), 21);
  }

  /** Promise 31. */
  private static void tear() {
    Check.says(31, "Nothing TOOK, THE BOOK is empty: how much both had");
    HasteRoads x = land();
    Check.due("tear() of nothing", x.tear(), 0);
    for (int i = 0; i < 20; i++) x.took(0, 0, 0, 0, 20);
    Check.due("tear(), TOOK alone", x.tear(), 20);
    for (int i = 0; i < 30; i++) x.write(-2);
    Check.due("tear(), THE BOOK alone", x.tear(), 30);
    for (int i = 0; i < 20; i++) x.took(0, 0, 0, 0, 20);
    for (int i = 0; i < 30; i++) x.write(0);
    Check.due("tear(), both full", x.tear(), 50);
    Check.due("told(6)", x.told(6), 0);
    Check.due("told(7)", x.told(7), 0);
    Check.due("lie()", x.lie(), Check.NONE);
    Check.due("judge(1, 0), no step is left", x.judge(1, 0), Check.NONE);
    Check.due("tear() again", x.tear(), 0);
    Check.due("told(0), the land stays", x.told(0), 3);
  }

  /** Promise 32: WRONG. */
  private static void judgeWrong() {
    Check.says(32, "WRONG: the first that cannot be (it does not lead from there; s above CALM); NONE");
    HasteRoads x = Check.land("p1;p0;p0;r0 1 2;r1 2 2;m0 2 3 3 99;m2 0 0 0 99;");
    Check.due("judge(0, 0), no steps", x.judge(0, 0), Check.NONE);
    x.write(10);
    Check.due("judge(0, 0), the first one", x.judge(0, 0), 0);
    Check.due("judge(0, 1)", x.judge(0, 1), 0);
    Check.due("judge(1, 0), another one can", x.judge(1, 0), Check.NONE);
    x.tear();
    x.write(3);
    Check.due("judge(0, 0), s all its CALM", x.judge(0, 0), Check.NONE);
    x.tear();
    x.write(4);
    Check.due("judge(0, 0), s above CALM", x.judge(0, 0), 0);
    x.tear();
    x.write(-2);
    x.write(4);
    Check.due("judge(0, 0), mended at the INN", x.judge(0, 0), Check.NONE);
    x.write(1);
    Check.due("judge(0, 0), CALM is spent", x.judge(0, 0), 2);
    x.tear();
    for (int i = 0; i < 29; i++) x.write(0);
    x.write(0);
    Check.due("judge(0, 0), 30 that can be", x.judge(0, 0), Check.NONE);
    x.tear();
    for (int i = 0; i < 29; i++) x.write(0);
    x.write(1 + 3);
    Check.due("judge(0, 0), the last of 30", x.judge(0, 0), 29);
    x.tear();
    for (int i = 0; i < 7; i++) x.write(-2);
    x.write(5);
    x.write(0);
    x.write(1);
    Check.due("judge(0, 0), CALM 5 at most", x.judge(0, 0), 9);
  }

  /** Promise 32: the MINUTE. */
  private static void judgeMinute() {
    Check.says(32, "the MINUTE up to there");
    HasteRoads x = Check.land("p1;p0;p0;r0 1 2;r1 2 2;m0 2 3 3 99;");
    Check.due("judge(0, 1), no steps", x.judge(0, 1), 0);
    x.write(-2);
    Check.due("a minute", x.judge(0, 1), 1);
    x.write(2);
    Check.due("and HURRY 1", x.judge(0, 1), 4);
    x.write(-2);
    Check.due("and a minute where no INN is", x.judge(0, 1), 5);
    x.write(12);
    Check.due("and HURRY 1", x.judge(0, 1), 8);
    Check.due("all can be", x.judge(0, 0), Check.NONE);
    x.write(0);
    x.write(-2);
    x.write(-2);
    Check.due("what is behind the first that cannot be does not count", x.judge(0, 1), 8);
    Check.due("WRONG", x.judge(0, 0), 4);
  }

  /** Promise 32: each ROAD and each s. */
  private static void judgeEachStep() {
    Check.says(32, "else 10 times the ROAD and s");
    StringBuilder text = new StringBuilder("p0;p0;");
    for (int r = 0; r < 9; r++) text.append("r0 1 ").append(2 * (r + 1)).append(';');
    text.append("m0 1 9 5 999;");
    HasteRoads x = Check.land(text.toString());
    for (int r = 0; r < 9; r++) {
      for (int s = 0; s <= 5; s++) {
        x.tear();
        x.write(10 * r + s);
        Check.due("ROAD " + r + ", s " + s, x.judge(0, 1), (r + 1) * (11 - s));
      }
    }
  }

  /** Promise 32: from now on, and nothing changes by it. */
  private static void judgeFromNow() {
    Check.says(32, "steps of a PERSON from now on");
    HasteRoads x = Check.land("p0;p0;r0 1 2;m0 1 3 3 20;");
    x.write(0);
    Check.due("at 0", x.judge(0, 1), 5);
    x.await(0, 10);
    Check.due("at 10, 10 left", x.judge(0, 1), 15);
    x.await(0, 1);
    Check.due("at 11, 9 left", x.judge(0, 1), 17);
    x.load(0, 9);
    Check.due("with a LOAD", x.judge(0, 1), 26);
    Check.due("MINUTE", x.person(0, 6), 11);
    Check.due("PLACE", x.person(0, 0), 0);
    Check.due("told(7)", x.told(7), 1);
    Check.await(x, 0, 89989);
    x.await(0, 1);
    Check.due("no MINUTE is too great for it", x.judge(0, 1), 90001 + 17);
  }

  /** Promise 32: what. */
  private static void judgeBounds() {
    Check.says(32, "what = 0 WRONG, 1 the MINUTE. UNKNOWN, OUTSIDE");
    HasteRoads x = land();
    Check.due("judge(1, 1)", x.judge(1, 1), 0);
    Check.due("judge(1, 2)", x.judge(1, 2), Check.OUTSIDE);
    Check.due("judge(1, -1)", x.judge(1, -1), Check.OUTSIDE);
    Check.due("judge(2, 0)", x.judge(2, 0), Check.UNKNOWN);
    Check.due("judge(-1, 2)", x.judge(-1, 2), Check.UNKNOWN);
  }
}
