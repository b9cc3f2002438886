/** Promises 27 to 32: TOOK and THE BOOK. */
public final class ToldTest {
  public static void main(String[] args) {
    took();
    tookFull();
    spent();
    lie();
    write();
    tear();
    judge();
    Check.end("ToldTest");
  }

  /** Promise 27. */
  private static void took() {
    HasteRoads x = Check.land("p0;p0;p0;r0 1 7;m0 1 4 0 50;");
    Check.due("took(1, 0, 0, 0, 0)", x.took(1, 0, 0, 0, 0), Check.UNKNOWN);
    Check.due("took(0, 1, 0, 0, 5)", x.took(0, 1, 0, 0, 5), Check.UNKNOWN);
    Check.due("took(0, 0, 3, 0, 5)", x.took(0, 0, 3, 0, 5), Check.UNKNOWN);
    Check.due("took(0, 0, 2, -1, 5)", x.took(0, 0, 2, -1, 5), Check.OUTSIDE);
    Check.due("took(0, 0, 0, 1000, 5)", x.took(0, 0, 0, 1000, 5), Check.OUTSIDE);
    Check.due("took(0, 0, 0, 0, 0)", x.took(0, 0, 0, 0, 0), Check.OUTSIDE);
    Check.due("took(0, 0, 0, 0, 1000)", x.took(0, 0, 0, 0, 1000), Check.OUTSIDE);
    Check.due("took(0, 0, 2, 0, 5)", x.took(0, 0, 2, 0, 5), Check.NOT);
    Check.due("told(6)", x.told(6), 0);
    Check.due("took(0, 0, 0, 0, 1)", x.took(0, 0, 0, 0, 1), 1);
    Check.due("took(0, 0, 1, 999, 999)", x.took(0, 0, 1, 999, 999), 2);
    Check.due("told(6)", x.told(6), 2);
  }

  private static void tookFull() {
    HasteRoads x = Check.land("p0;p0;p0;r0 1 7;m0 1 4 0 50;");
    for (int i = 1; i <= 20; i++) Check.due("took, time " + i, x.took(0, 0, 0, 0, 21), i);
    Check.due("the 21st", x.took(0, 0, 0, 0, 21), Check.FULL);
    Check.due("the 21st, not from there", x.took(0, 0, 2, 0, 21), Check.NOT);
    Check.due("told(6)", x.told(6), 20);
    Check.due("spent(19)", x.spent(19), 1);
    Check.due("spent(20)", x.spent(20), Check.NONE);
  }

  /** Promise 28. */
  private static void spent() {
    HasteRoads x = Check.land("p0;p0;r0 1 7;r0 1 1;m0 1 4 0 50;");
    x.took(0, 0, 0, 0, 21);
    x.took(0, 0, 0, 0, 18);
    x.took(0, 0, 0, 0, 7);
    x.took(0, 1, 0, 0, 2);
    x.took(0, 0, 0, 51, 32);
    x.took(0, 0, 0, 0, 20);
    Check.due("spent(0), nothing", x.spent(0), 1);
    Check.due("spent(1), 1", x.spent(1), 2);
    Check.due("spent(2), 4 or 5, whatever CALM it had", x.spent(2), 48);
    Check.due("spent(3), 2 or 3: half of it is cut upwards", x.spent(3), 12);
    Check.due("spent(4), late", x.spent(4), 1);
    Check.due("spent(5), a lie", x.spent(5), 0);
    Check.due("spent(6)", x.spent(6), Check.NONE);
    Check.due("spent(-1)", x.spent(-1), Check.NONE);
    Check.due("spent(MIN)", x.spent(Integer.MIN_VALUE), Check.NONE);
    x.load(0, 1);
    Check.due("spent(0), LOAD as now", x.spent(0), 2);
    x.clock(0, true);
    Check.due("spent(0), CLOCKS as now", x.spent(0), 4);
  }

  /** Promise 29. */
  private static void lie() {
    HasteRoads x = Check.land("p0;p0;r0 1 7;m0 1 4 0 50;");
    Check.due("lie() of nothing", x.lie(), Check.NONE);
    x.took(0, 0, 0, 0, 21);
    Check.due("lie()", x.lie(), Check.NONE);
    x.took(0, 0, 0, 0, 20);
    x.took(0, 0, 0, 0, 19);
    Check.due("lie(), the first", x.lie(), 1);
    x.load(0, 9);
    Check.due("lie(), LOAD as now", x.lie(), 0);
  }

  /** Promise 30. */
  private static void write() {
    HasteRoads x = Check.land("p0;p0;r0 1 7;r0 1 3;m0 1 4 0 50;");
    Check.due("write(20)", x.write(20), Check.UNKNOWN);
    Check.due("write(26), UNKNOWN is ahead", x.write(26), Check.UNKNOWN);
    Check.due("write(95)", x.write(95), Check.UNKNOWN);
    Check.due("write(6)", x.write(6), Check.OUTSIDE);
    Check.due("write(19)", x.write(19), Check.OUTSIDE);
    Check.due("write(-1)", x.write(-1), Check.OUTSIDE);
    Check.due("write(-3)", x.write(-3), Check.OUTSIDE);
    Check.due("told(7)", x.told(7), 0);
    Check.due("write(-2)", x.write(-2), 1);
    Check.due("write(5)", x.write(5), 2);
    Check.due("write(15)", x.write(15), 3);
    for (int i = 4; i <= 30; i++) Check.due("write(0), " + i, x.write(0), i);
    Check.due("write(0), the 31st", x.write(0), Check.FULL);
    Check.due("write(9), the 31st", x.write(9), Check.OUTSIDE);
    Check.due("write(20), the 31st", x.write(20), Check.UNKNOWN);
    Check.due("told(7)", x.told(7), 30);
    HasteRoads nine = Check.land("p0;p0;" + "r0 1 3;".repeat(9));
    Check.due("write(85)", nine.write(85), 1);
    Check.due("write(90)", nine.write(90), Check.UNKNOWN);
  }

  /** Promise 31. */
  private static void tear() {
    HasteRoads x = Check.land("p0;p0;r0 1 7;m0 1 4 0 50;");
    x.took(0, 0, 0, 0, 20);
    x.took(0, 0, 0, 0, 20);
    x.write(-2);
    Check.due("tear()", x.tear(), 3);
    Check.due("told(6)", x.told(6), 0);
    Check.due("told(7)", x.told(7), 0);
    Check.due("lie()", x.lie(), Check.NONE);
    Check.due("spent(0)", x.spent(0), Check.NONE);
    Check.due("tear() again", x.tear(), 0);
  }

  /** Promise 32. */
  private static void judge() {
    HasteRoads x = Check.land("p1;p0;p0;r0 1 7;r1 2 4;m0 2 4 0 50;m1 2 0 0 50;");
    Check.due("judge(0, 0), no steps", x.judge(0, 0), Check.NONE);
    Check.due("judge(0, 1), no steps", x.judge(0, 1), 0);
    x.write(-2);
    x.write(1);
    x.write(10);
    Check.due("judge(0, 0)", x.judge(0, 0), Check.NONE);
    Check.due("judge(0, 1): 1, 18, 12", x.judge(0, 1), 31);
    Check.due("judge(1, 0), no CALM for it", x.judge(1, 0), 1);
    Check.due("judge(1, 1)", x.judge(1, 1), 1);
    x.write(0);
    x.write(-2);
    Check.due("judge(0, 0), it does not lead from there", x.judge(0, 0), 3);
    Check.due("judge(0, 1)", x.judge(0, 1), 31);
    Check.due("judge(2, 2)", x.judge(2, 2), Check.UNKNOWN);
    Check.due("judge(-1, 0)", x.judge(-1, 0), Check.UNKNOWN);
    Check.due("judge(0, 2)", x.judge(0, 2), Check.OUTSIDE);
    Check.due("judge(0, -1)", x.judge(0, -1), Check.OUTSIDE);
    Check.due("MINUTE as it was", x.person(0, 6), 0);
    Check.due("CALM as it was", x.person(0, 3), 0);
    x.await(0, 2);
    Check.due("from now on: 2, 1, 18, 12", x.judge(0, 1), 33);
  }
}
