/** The edges of promises 1 to 8 and of THE LAND's text, sentence by sentence: the last that is taken, the first that is not. */
public final class LandEdgesTest {
  private static final String SIX = "p0;".repeat(6);
  private static final String TWO = "p0;p0;";

  public static void main(String[] args) {
    newObject();
    feed();
    textStartsAgain();
    calls512();
    emptyTexts();
    fullTexts();
    placeClauses();
    roadClauses();
    personClauses();
    clockClauses();
    numbers();
    words();
    blanks();
    firstFault();
    leastFault();
    landAsTold();
    landForgets();
    faultLeavesAll();
    fault();
    told();
    road();
    person();
    hurry();
    takes();
    Check.end("LandEdgesTest");
  }

  /** Promise 1: there is nothing that a number could name, and what needs no number answers as of nothing. */
  private static void newObject() {
    Check.says(1, "No PLACES");
    HasteRoads x = new HasteRoads();
    for (int what = 0; what <= 7; what++) Check.due("told(" + what + ")", x.told(what), 0);
    Check.due("fault()", x.fault(), Check.NONE);
    Check.due("road(0, 0)", x.road(0, 0), Check.UNKNOWN);
    Check.due("person(0, 0)", x.person(0, 0), Check.UNKNOWN);
    Check.due("takes(0, 0, 0, 0, 0)", x.takes(0, 0, 0, 0, 0), Check.UNKNOWN);
    Check.due("go(0, 0, 0)", x.go(0, 0, 0), Check.UNKNOWN);
    Check.due("await(0, 1)", x.await(0, 1), Check.UNKNOWN);
    Check.due("load(0, 1)", x.load(0, 1), Check.UNKNOWN);
    Check.due("inn(0, true)", x.inn(0, true), Check.UNKNOWN);
    Check.due("clock(0, true)", x.clock(0, true), Check.UNKNOWN);
    Check.due("miles(0, 1)", x.miles(0, 1), Check.UNKNOWN);
    Check.due("drift(1)", x.drift(1), Check.NOT);
    Check.due("soonest(0, 0)", x.soonest(0, 0), Check.UNKNOWN);
    Check.due("step(0, 0)", x.step(0, 0), Check.UNKNOWN);
    Check.due("latest(0)", x.latest(0), Check.UNKNOWN);
    Check.due("inns(0)", x.inns(0), 0);
    Check.due("inns(1)", x.inns(1), 0);
    Check.due("relay(0, 1, 0)", x.relay(0, 1, 0), Check.UNKNOWN);
    Check.due("meet(0, 1, 0)", x.meet(0, 1, 0), Check.UNKNOWN);
    Check.due("cost(0)", x.cost(0), Check.UNKNOWN);
    Check.due("shorter(0)", x.shorter(0), Check.NONE);
    Check.due("shorter(1)", x.shorter(1), Check.NONE);
    Check.due("lend(0, 1, 0)", x.lend(0, 1, 0), Check.UNKNOWN);
    Check.due("guard(0, 0)", x.guard(0, 0), Check.UNKNOWN);
    Check.due("round(0, 0)", x.round(0, 0), Check.UNKNOWN);
    Check.due("took(0, 0, 0, 0, 1)", x.took(0, 0, 0, 0, 1), Check.UNKNOWN);
    Check.due("spent(0)", x.spent(0), Check.NONE);
    Check.due("lie()", x.lie(), Check.NONE);
    Check.due("write(0)", x.write(0), Check.UNKNOWN);
    Check.due("tear()", x.tear(), 0);
    Check.due("judge(0, 0)", x.judge(0, 0), Check.UNKNOWN);
    Check.due("goBack(0)", x.goBack(0), Check.NOT);
    Check.due("goBack(1)", x.goBack(1), Check.NOT);
    Check.due("seed(0)", x.seed(0), 0);
    Check.due("keep(1)", x.keep(1), 1);
    Check.due("goBack(1)", x.goBack(1), 1);
    Check.due("write(-2)", x.write(-2), 1);
    Check.due("two objects have nothing in common", new HasteRoads().told(7), 0);
  }

  /** Promise 2. */
  private static void feed() {
    Check.says(2, "A letter (0 .. 255) comes behind THE TEXT: how many it has");
    HasteRoads x = new HasteRoads();
    Check.due("feed(0)", x.feed(0), 1);
    Check.due("feed(-1)", x.feed(-1), Check.OUTSIDE);
    Check.due("feed(255)", x.feed(255), 2);
    Check.due("feed(256)", x.feed(256), Check.OUTSIDE);
    Check.due("told(3)", x.told(3), 2);
    Check.says(2, "FULL (250)");
    HasteRoads full = new HasteRoads();
    Check.feed(full, "p1;" + " ".repeat(246));
    Check.due("the 250th", full.feed(' '), 250);
    Check.due("the 251st", full.feed('x'), Check.FULL);
    Check.due("the 251st, a blank", full.feed(' '), Check.FULL);
    Check.due("the 251st, OUTSIDE ahead of FULL", full.feed(256), Check.OUTSIDE);
    Check.due("the 251st, OUTSIDE ahead of FULL", full.feed(-1), Check.OUTSIDE);
    Check.due("told(3)", full.told(3), 250);
    Check.due("land(), the letter that was refused is not in it", full.land(), 1);
  }

  /** Promises 2 and 3: the letters are counted from the beginning again. */
  private static void textStartsAgain() {
    Check.says(3, "THE TEXT (it is empty then)");
    HasteRoads x = new HasteRoads();
    Check.feed(x, "p1;");
    Check.due("land()", x.land(), 1);
    Check.due("told(3) behind a land", x.told(3), 0);
    Check.due("feed('p')", x.feed('p'), 1);
    Check.due("land() of a FAULT", x.land(), -11);
    Check.due("told(3) behind a FAULT", x.told(3), 0);
    for (int i = 1; i <= 250; i++) x.feed(' ');
    Check.due("the 251st", x.feed(' '), Check.FULL);
    Check.due("land() of a full one", x.land(), 0);
    Check.due("feed behind a full one", x.feed('p'), 1);
    Check.feed(x, "0;");
    Check.due("land() of what came since", x.land(), 1);
  }

  /** Terms: an object is used for at most 512 calls; the last one answers as the first. */
  private static void calls512() {
    Check.says(1, "An object is used for at most 512 calls");
    String text = "p1;p0;r0 1 20;m0 1 9 0 999;";
    HasteRoads x = Check.land(text);
    for (int calls = text.length() + 1; calls < 511; calls++) x.soonest(0, 1);
    Check.due("the 512th call", x.soonest(0, 1), 65);
  }

  private static void lands(String text, int places) {
    HasteRoads x = new HasteRoads();
    Check.feed(x, text);
    Check.due("land() of '" + text + "'", x.land(), places);
    Check.due("fault() of '" + text + "'", x.fault(), Check.NONE);
  }

  private static void faulty(String text, int number, int at) {
    HasteRoads x = new HasteRoads();
    Check.feed(x, text);
    Check.due("land() of '" + text + "'", x.land(), -10 - number);
    Check.due("fault() of '" + text + "'", x.fault(), at);
    Check.due("told(0) of '" + text + "'", x.told(0), 0);
  }

  /** Promise 3: no clause is a land of no PLACES, in place of the one that was. */
  private static void emptyTexts() {
    Check.says(3, "THE TEXT becomes THE LAND: how many PLACES (an empty text)");
    lands("", 0);
    lands(" ", 0);
    lands(" ".repeat(250), 0);
    HasteRoads x = Check.land("p1;p0;r0 1 4;m0 1 3 2 30;c1;");
    Check.due("land() of an empty text", x.land(), 0);
    for (int what = 0; what <= 7; what++) Check.due("told(" + what + ")", x.told(what), 0);
    Check.due("person(0, 0)", x.person(0, 0), Check.UNKNOWN);
    Check.due("road(0, 0)", x.road(0, 0), Check.UNKNOWN);
  }

  /** Promise 3: all 250 letters are read. */
  private static void fullTexts() {
    Check.says(3, "a text (250 letters at most)");
    String blanks = " ".repeat(241);
    lands(TWO + blanks + "p1;", 3);
    faulty(TWO + blanks + "p1x", 1, 249);
    faulty(TWO + " ".repeat(242) + "p1", 1, 250);
    faulty(TWO + " ".repeat(243) + "p", 1, 250);
    faulty(TWO + " ".repeat(243) + "x", 1, 249);
    // the greatest land: 6 PLACES, 9 ROADS, 4 PERSONS, 6 CLOCKS
    String most = "p1;".repeat(6) + "r4 5 20;".repeat(9) + "m5 4 9 5 999;".repeat(4) + "c0;c1;c2;c3;c4;c5;";
    HasteRoads x = Check.land(most);
    int[] told = {6, 9, 4, 0, 63, 63, 0, 0};
    for (int what = 0; what <= 7; what++) Check.due("told(" + what + ")", x.told(what), told[what]);
    int[] road = {4, 5, 20};
    for (int what = 0; what <= 2; what++) Check.due("road(8, " + what + ")", x.road(8, what), road[what]);
    int[] person = {5, 4, 9, 5, 999, 0, 0, 10};
    for (int what = 0; what <= 7; what++) Check.due("person(3, " + what + ")", x.person(3, what), person[what]);
  }

  /** Promise 3, 'p' I ';'. */
  private static void placeClauses() {
    Check.says(3, "'p' I ';' (6 PLACES at most: with an INN, I 1, or none, 0)");
    for (int n = 1; n <= 6; n++) lands("p0;".repeat(n), n);
    faulty(SIX + "p0;", 3, 18);
    faulty(SIX + "p", 3, 18);
    faulty(SIX + "  p1;", 3, 20);
    lands("p0;", 1);
    lands("p1;", 1);
    faulty("p2;", 2, 1);
    faulty("p9;", 2, 1);
    faulty("p999;", 2, 1);
    Check.due("INNS of p0;p1;", Check.land("p0;p1;").told(4), 2);
    Check.due("INNS of p1;p0;", Check.land("p1;p0;").told(4), 1);
    Check.due("INNS of six", Check.land("p1;".repeat(6)).told(4), 63);
    Check.due("INNS of none", Check.land(SIX).told(4), 0);
  }

  /** Promise 3, 'r' A B L ';'. */
  private static void roadClauses() {
    Check.says(3, "'r' A B L ';' (9 ROADS at most ..; there may be several between two)");
    lands(TWO + "r0 1 5;".repeat(9), 2);
    faulty(TWO + "r0 1 5;".repeat(9) + "r0 1 5;", 3, 69);
    faulty(TWO + "r0 1 5;".repeat(9) + " r", 3, 70);
    Check.due("told(1)", Check.land(TWO + "r0 1 5;r1 0 5;r0 1 5;").told(1), 3);
    Check.says(3, "between unlike PLACES told ahead");
    lands(TWO + "r0 1 5;", 2);
    lands(TWO + "r1 0 5;", 2);
    faulty(TWO + "r2 0 5;", 2, 7);
    faulty(TWO + "r0 2 5;", 2, 9);
    lands(TWO + "p0;r2 0 5;", 3);
    lands(TWO + "p0;r0 2 5;", 3);
    faulty("r0 1 5;" + TWO, 2, 1);
    faulty("p0;r0 1 5;p0;", 2, 6);
    lands(SIX + "r5 4 5;", 6);
    faulty(SIX + "r6 4 5;", 2, 19);
    faulty(SIX + "r4 6 5;", 2, 21);
    Check.says(3, "4 B like A (at the B)");
    faulty(TWO + "r0 0 5;", 4, 9);
    faulty(TWO + "r1 1 5;", 4, 9);
    faulty(TWO + "r1 001 5;", 4, 9);
    faulty("p0;r0 0 5;", 4, 6);
    Check.says(3, "L miles, 1 .. 20");
    lands(TWO + "r0 1 1;", 2);
    faulty(TWO + "r0 1 0;", 2, 11);
    lands(TWO + "r0 1 20;", 2);
    faulty(TWO + "r0 1 21;", 2, 11);
    faulty(TWO + "r0 1 999;", 2, 11);
  }

  /** Promise 3, 'm' P E H K T ';'. */
  private static void personClauses() {
    Check.says(3, "'m' P E H K T ';' (4 PERSONS at most)");
    lands("p0;" + "m0 0 0 0 0;".repeat(4), 1);
    faulty("p0;" + "m0 0 0 0 0;".repeat(5), 3, 47);
    faulty("p0;" + "m0 0 0 0 0;".repeat(4) + "  m", 3, 49);
    Check.says(3, "at PLACE P, with an ERRAND at PLACE E, both told ahead");
    lands(TWO + "m1 0 0 0 0;", 2);
    lands(TWO + "m0 1 0 0 0;", 2);
    lands(TWO + "m1 1 0 0 0;", 2);
    faulty(TWO + "m2 0 0 0 0;", 2, 7);
    faulty(TWO + "m0 2 0 0 0;", 2, 9);
    faulty("m0 0 0 0 0;p0;", 2, 1);
    faulty("p0;m0 1 0 0 0;p0;", 2, 6);
    faulty(SIX + "m6 0 0 0 0;", 2, 19);
    faulty(SIX + "m5 6 0 0 0;", 2, 21);
    lands(SIX + "m5 5 0 0 0;", 6);
    Check.says(3, "HASTE H 0 .. 9");
    Check.due("H 0", Check.land("p0;m0 0 0 0 0;").person(0, 2), 0);
    Check.due("H 9", Check.land("p0;m0 0 9 0 0;").person(0, 2), 9);
    faulty("p0;m0 0 10 0 0;", 2, 8);
    Check.says(3, "CALM K 0 .. 5");
    Check.due("K 0", Check.land("p0;m0 0 0 0 0;").person(0, 3), 0);
    Check.due("K 5", Check.land("p0;m0 0 0 5 0;").person(0, 3), 5);
    faulty("p0;m0 0 0 6 0;", 2, 10);
    Check.says(3, "due at minute T, 0 .. 999");
    Check.due("T 0", Check.land("p0;m0 0 0 0 0;").person(0, 4), 0);
    Check.due("T 999", Check.land("p0;m0 0 0 0 999;").person(0, 4), 999);
    faulty("p0;m0 0 0 0 1000;", 2, 12);
  }

  /** Promise 3, 'c' P ';'. */
  private static void clockClauses() {
    Check.says(3, "'c' P ';' (a CLOCK at a PLACE told ahead, each once)");
    lands("p0;c0;", 1);
    faulty("p0;c1;", 2, 4);
    faulty("c0;p0;", 2, 1);
    faulty("p0;c1;p0;", 2, 4);
    Check.due("CLOCKS of six", Check.land(SIX + "c5;c4;c3;c2;c1;c0;").told(5), 63);
    Check.due("CLOCKS of the last", Check.land(SIX + "c5;").told(5), 32);
    faulty(SIX + "c6;", 2, 19);
    Check.says(3, "4 a CLOCK again (at the P)");
    faulty("p0;c0;c0;", 4, 7);
    faulty("p0;c0;c  00;", 4, 9);
    faulty(TWO + "c1;c0;c1;", 4, 13);
  }

  /** Promise 3: NUMBERS. */
  private static void numbers() {
    Check.says(3, "NUMBERS have one to three figures");
    faulty("p;", 1, 1);
    lands("p1;", 1);
    lands("p01;", 1);
    lands("p001;", 1);
    faulty("p0001;", 2, 1);
    faulty("p0000;", 2, 1);
    faulty("p00000000001;", 2, 1);
    Check.due("I 001", Check.land("p001;").told(4), 1);
    Check.due("L 020", Check.land("p000;p000;r000 001 020;").road(0, 2), 20);
    faulty(TWO + "r0 1 0020;", 2, 11);
    faulty("p0;m0 0 0 0 0999;", 2, 12);
    faulty("p0;m0 0 0 0 4294967296;", 2, 12);
    faulty("p4294967296;", 2, 1);
    faulty("p" + "0".repeat(249), 2, 1);
    faulty("p-0;", 1, 1);
    faulty("p+1;", 1, 1);
    faulty("p/;", 1, 1);
    faulty("p:;", 1, 1);
    faulty("p0/;", 1, 2);
    faulty("p0:;", 1, 2);
    Check.says(3, "two NUMBERS side by side need one");
    faulty(TWO + "r0 15;", 2, 9);
    faulty(TWO + "r01 5;", 2, 10);
    faulty(TWO + "r015;", 2, 7);
    faulty(TWO + "r01 1 5;", 4, 10);
    faulty("p0;m00000;", 2, 4);
    faulty("p0;m0 0 0 00;", 1, 12);
  }

  /** Promise 3: a word is one letter. */
  private static void words() {
    Check.says(3, "a word is one letter; 1 it cannot stand there (a letter that is no word)");
    faulty("x", 1, 0);
    faulty("P0;", 1, 0);
    faulty("R", 1, 0);
    faulty("o0;", 1, 0);
    faulty("q0;", 1, 0);
    faulty(";", 1, 0);
    faulty("0", 1, 0);
    faulty("pp0;", 1, 1);
    faulty("pl0;", 1, 1);
    faulty("p0;;", 1, 3);
    faulty("p0p0;", 1, 2);
    faulty("p0,", 1, 2);
    faulty("p0 1;", 1, 3);
    faulty(TWO + "r0;", 1, 8);
    faulty(TWO + "r0 1;", 1, 10);
    faulty(TWO + "r0 1 5 5;", 1, 13);
    faulty(TWO + "rr0 1 5;", 1, 7);
    faulty("p0;m0 0 0 0;", 1, 11);
    faulty("p0;m0 0 0 0 0 0;", 1, 14);
    faulty("p0;c;", 1, 4);
    faulty("p0;c0 0;", 1, 6);
    faulty("" + (char) 0, 1, 0);
    faulty("" + (char) 255, 1, 0);
    faulty("p" + (char) 255, 1, 1);
    Check.says(3, "the end at the text's length");
    faulty("p", 1, 1);
    faulty("p0", 1, 2);
    faulty("p0  ", 1, 4);
    faulty("p0;r", 1, 4);
    faulty(TWO + "r0 ", 1, 9);
    faulty(TWO + "r0 1 ", 1, 11);
    faulty(TWO + "r0 1 5", 1, 12);
    faulty("p0;m", 1, 4);
    faulty("p0;m0 0 0 0 0", 1, 13);
    faulty("p0;c", 1, 4);
    faulty("p0;c0", 1, 5);
  }

  /** Promise 3: blanks. */
  private static void blanks() {
    Check.says(3, "blanks (32) may stand anywhere but within NUMBERS");
    lands("  p  0  ;  p1;  r  0  1  5  ;  m  0  1  9  5  99  ;  c  1  ;  ", 2);
    lands("p0;p0;r0 1 5;m0 1 9 5 99;c1;", 2);
    faulty("p0 1;", 1, 3);
    faulty(TWO + "r0 1 1 0;", 1, 13);
    faulty("p0;m0 0 0 0 9 9;", 1, 14);
    for (int other : new int[] {0, 9, 10, 13, 31, 33, 127, 160}) {
      faulty((char) other + "p0;", 1, 0);
      faulty("p" + (char) other + "0;", 1, 1);
      faulty("p0" + (char) other + ";", 1, 2);
      faulty("p0;" + (char) other, 1, 3);
      faulty(TWO + "r0" + (char) other + "1 5;", 1, 8);
    }
  }

  /** Promise 3: the first letter that has a FAULT, whatever comes behind. */
  private static void firstFault() {
    Check.says(3, "FAULTS, at the first letter that has one");
    faulty("p2;x", 2, 1);
    faulty("p2x", 2, 1);
    faulty("x" + "p2;", 1, 0);
    faulty(SIX + "p2;x", 3, 18);
    faulty(SIX + "px", 3, 18);
    faulty(TWO + "r0 0 99;", 4, 9);
    faulty(TWO + "r0 0x", 4, 9);
    faulty(TWO + "r2 2 99;", 2, 7);
    faulty(TWO + "r0 1 99x", 2, 11);
    faulty(TWO + "r0 1 5;".repeat(9) + "r0 0 99;", 3, 69);
    faulty("p0;" + "m0 0 0 0 0;".repeat(4) + "m1 1 10 6 1000;", 3, 47);
    faulty("p0;m1 1 10 6 1000;", 2, 4);
    faulty("p0;m0 1 10 6 1000;", 2, 6);
    faulty("p0;m0 0 10 6 1000;", 2, 8);
    faulty("p0;m0 0 9 6 1000;", 2, 10);
    faulty("p0;m0 0 9 5 1000;", 2, 12);
    faulty("p0;m0 0 9 5 999", 1, 15);
    faulty("p0;c0;c0x", 4, 7);
  }

  /** Promise 3: of several at one letter the least. */
  private static void leastFault() {
    Check.says(3, "of these the least");
    faulty(TWO + "r0 0000 5;", 2, 9);
    faulty("p0;c0;c0000;", 2, 7);
    faulty("p0;c0;c 000;", 4, 8);
    faulty(TWO + "r0 000 5;", 4, 9);
    faulty(SIX + "rp0;", 1, 19);
    faulty(SIX + "p", 3, 18);
  }

  /** Promise 3: all as told. */
  private static void landAsTold() {
    Check.says(3, "THE LAND (all as told)");
    HasteRoads x = Check.land("p1;p0;r0 1 7;m0 1 4 2 50;c1;");
    x.go(0, 0, 2);
    x.load(0, 9);
    x.inn(1, true);
    x.clock(1, false);
    x.miles(0, 20);
    Check.feed(x, "p1;p0;r0 1 7;m0 1 4 2 50;c1;");
    Check.due("land()", x.land(), 2);
    int[] person = {0, 1, 4, 2, 50, 0, 0, 4};
    for (int what = 0; what <= 7; what++) Check.due("person(0, " + what + ")", x.person(0, what), person[what]);
    Check.due("miles", x.road(0, 2), 7);
    Check.due("INNS", x.told(4), 1);
    Check.due("CLOCKS", x.told(5), 2);
    Check.says(3, "Each PERSON has its own MINUTE (0 at first), LOAD (0 at first)");
    HasteRoads y = Check.land("p0;m0 0 1 1 1;");
    y.await(0, 999);
    y.load(0, 9);
    y.soonest(0, 0);
    Check.feed(y, "p0;m0 0 1 1 1;m0 0 1 1 1;");
    y.land();
    y.await(1, 3);
    y.load(1, 4);
    Check.due("LOAD of 0", y.person(0, 5), 0);
    Check.due("MINUTE of 0", y.person(0, 6), 0);
    Check.due("LOAD of 1", y.person(1, 5), 4);
    Check.due("MINUTE of 1", y.person(1, 6), 3);
  }

  private static HasteRoads full() {
    HasteRoads x = Check.land("p1;p0;r0 1 7;m0 1 4 2 50;c1;");
    for (int i = 0; i < 20; i++) x.took(0, 0, 0, 0, 20);
    for (int i = 0; i < 30; i++) x.write(-2);
    x.seed(2147483647);
    x.keep(0);
    x.keep(1);
    x.seed(77);
    return x;
  }

  /** Promise 3: what a new land takes along and what it leaves. */
  private static void landForgets() {
    HasteRoads x = full();
    Check.feed(x, "p1;p0;r0 1 7;m0 1 4 2 50;c1;");
    x.land();
    Check.says(3, "nothing TOOK");
    Check.due("told(6)", x.told(6), 0);
    Check.due("spent(0)", x.spent(0), Check.NONE);
    Check.due("lie()", x.lie(), Check.NONE);
    for (int i = 1; i <= 20; i++) Check.due("took, time " + i, x.took(0, 0, 0, 0, 20), i);
    Check.says(3, "no BOOK");
    Check.due("told(7)", x.told(7), 0);
    Check.due("judge(0, 1)", x.judge(0, 1), 0);
    for (int i = 1; i <= 30; i++) Check.due("write(-2), time " + i, x.write(-2), i);
    Check.says(3, "IMAGES are gone");
    Check.due("goBack(0)", x.goBack(0), Check.NOT);
    Check.due("goBack(1)", x.goBack(1), Check.NOT);
    Check.due("keep(1)", x.keep(1), 1);
    Check.due("goBack(0)", x.goBack(0), Check.NOT);
    Check.due("goBack(1)", x.goBack(1), 1);
    Check.says(3, "THE SEED stays");
    Check.due("seed(0)", x.seed(0), 77);
  }

  /** Promise 3: each of the four numbers, and that all is as it was but for THE TEXT. */
  private static void faultLeavesAll() {
    Check.says(3, "-10 less the number of its FAULT (all is as it was)");
    String[] texts = {"p1;p1;p1;r0 2 9;m2 2 1 1 1;c2;x", "p1;p1;p1;r0 2 9;m2 2 1 1 1;c2;p2;", SIX + "p0;", "p1;c0;c0;"};
    for (int number = 1; number <= 4; number++) {
      HasteRoads x = full();
      Check.feed(x, texts[number - 1]);
      Check.due("land()", x.land(), -10 - number);
      HasteRoads twin = full();
      // both have had a FAULT at letter 0 since, so that nothing but what is kept can tell them apart
      x.feed('x');
      x.land();
      twin.feed('x');
      twin.land();
      Check.same("FAULT " + number, x, twin);
    }
  }

  /** Promise 4. */
  private static void fault() {
    Check.says(4, "The letter of the FAULT of the latest land(); NONE");
    HasteRoads x = new HasteRoads();
    Check.due("fault() ahead of any land", x.fault(), Check.NONE);
    x.feed('x');
    Check.due("fault() of a text that is not yet read", x.fault(), Check.NONE);
    x.land();
    Check.due("fault(), the first letter", x.fault(), 0);
    Check.feed(x, "p0;p");
    Check.due("fault() while letters come", x.fault(), 0);
    x.land();
    Check.due("fault(), the end", x.fault(), 4);
    x.seed(5);
    x.keep(0);
    x.told(8);
    Check.due("fault() behind other calls", x.fault(), 4);
    Check.feed(x, "p0;");
    x.land();
    Check.due("fault() of a land without one", x.fault(), Check.NONE);
    x.feed(';');
    x.land();
    Check.due("fault() of the latest", x.fault(), 0);
    x.land();
    Check.due("fault() of an empty text", x.fault(), Check.NONE);
    Check.feed(x, " ".repeat(249) + "x");
    x.land();
    Check.due("fault(), the 250th letter", x.fault(), 249);
    x.keep(0);
    x.goBack(0);
    Check.due("fault(), no part of an IMAGE", x.fault(), 249);
    HasteRoads full = new HasteRoads();
    Check.feed(full, " ".repeat(249) + "p");
    full.land();
    Check.due("fault(), behind the 250th letter", full.fault(), 250);
  }

  /** Promise 5. */
  private static void told() {
    Check.says(5, "0 PLACES .. 7 steps of THE BOOK. OUTSIDE");
    HasteRoads x = full();
    for (int i = 0; i < 250; i++) x.feed(' ');
    int[] told = {2, 1, 1, 250, 1, 2, 20, 30};
    for (int what = 0; what <= 7; what++) Check.due("told(" + what + ")", x.told(what), told[what]);
    Check.due("told(-1)", x.told(-1), Check.OUTSIDE);
    Check.due("told(8)", x.told(8), Check.OUTSIDE);
    Check.says(5, "INNS, CLOCKS (a SET of PLACES)");
    HasteRoads y = Check.land("p1;p0;p0;p0;p0;p1;c0;c5;");
    Check.due("told(4)", y.told(4), 33);
    Check.due("told(5)", y.told(5), 33);
    y.inn(0, false);
    y.inn(4, true);
    y.clock(5, false);
    y.clock(1, true);
    Check.due("told(4), as they are now", y.told(4), 48);
    Check.due("told(5), as they are now", y.told(5), 3);
  }

  /** Promise 6. */
  private static void road() {
    Check.says(6, "what = 0 A, 1 B, 2 miles. UNKNOWN, OUTSIDE");
    HasteRoads x = Check.land(SIX + "r0 1 1;".repeat(8) + "r5 4 20;");
    int[] last = {5, 4, 20};
    for (int what = 0; what <= 2; what++) Check.due("road(8, " + what + ")", x.road(8, what), last[what]);
    int[] first = {0, 1, 1};
    for (int what = 0; what <= 2; what++) Check.due("road(0, " + what + ")", x.road(0, what), first[what]);
    Check.due("road(9, 0)", x.road(9, 0), Check.UNKNOWN);
    Check.due("road(-1, 0)", x.road(-1, 0), Check.UNKNOWN);
    Check.due("road(8, 3)", x.road(8, 3), Check.OUTSIDE);
    Check.due("road(8, -1)", x.road(8, -1), Check.OUTSIDE);
    Check.due("road(9, 3)", x.road(9, 3), Check.UNKNOWN);
    x.miles(8, 1);
    Check.due("miles as they are now", x.road(8, 2), 1);
  }

  /** Promise 7. */
  private static void person() {
    Check.says(7, "what = 0 PLACE .. 7 HURRY. UNKNOWN, OUTSIDE");
    HasteRoads x = Check.land("p0;p0;" + "m0 0 0 0 100;".repeat(3) + "m1 0 9 5 999;");
    int[] last = {1, 0, 9, 5, 999, 0, 0, 9};
    for (int what = 0; what <= 7; what++) Check.due("person(3, " + what + ")", x.person(3, what), last[what]);
    Check.due("person(4, 0)", x.person(4, 0), Check.UNKNOWN);
    Check.due("person(-1, 0)", x.person(-1, 0), Check.UNKNOWN);
    Check.due("person(3, 8)", x.person(3, 8), Check.OUTSIDE);
    Check.due("person(3, -1)", x.person(3, -1), Check.OUTSIDE);
    Check.due("person(4, 8)", x.person(4, 8), Check.UNKNOWN);
  }

  private static int hurryAt(String person, int minute) {
    HasteRoads x = Check.land("p0;" + person);
    Check.await(x, 0, minute);
    return x.person(0, 7);
  }

  /** Promise 7: HURRY, each of what makes it more. */
  private static void hurry() {
    Check.says(7, "HURRY: H and LOAD, 1 more if there is a CLOCK");
    Check.due("nothing", hurryAt("m0 0 0 0 10;", 0), 0);
    Check.due("H 9", hurryAt("m0 0 9 0 10;", 0), 9);
    Check.due("a CLOCK", hurryAt("m0 0 0 0 10;c0;", 0), 1);
    HasteRoads x = Check.land("p0;p0;r0 1 1;m0 1 9 5 20;c1;");
    Check.due("a CLOCK elsewhere", x.person(0, 7), 9);
    x.load(0, 9);
    Check.due("LOAD 9", x.person(0, 7), 18);
    x.clock(0, true);
    Check.due("LOAD 9 and a CLOCK", x.person(0, 7), 19);
    Check.says(7, "1 more if fewer than 10 minutes are left till T (or none)");
    Check.due("11 left", hurryAt("m0 0 3 0 30;", 19), 3);
    Check.due("10 left", hurryAt("m0 0 3 0 30;", 20), 3);
    Check.due("9 left", hurryAt("m0 0 3 0 30;", 21), 4);
    Check.due("1 left", hurryAt("m0 0 3 0 30;", 29), 4);
    Check.due("none left", hurryAt("m0 0 3 0 30;", 30), 4);
    Check.due("T 10", hurryAt("m0 0 3 0 10;", 0), 3);
    Check.due("T 9", hurryAt("m0 0 3 0 9;", 0), 4);
    Check.due("T 0", hurryAt("m0 0 3 0 0;", 0), 4);
    Check.says(7, "2 more if it is late already (MINUTE above T)");
    Check.due("late by 1", hurryAt("m0 0 3 0 30;", 31), 6);
    Check.due("T 0, late by 1", hurryAt("m0 0 3 0 0;", 1), 6);
    Check.due("T 999, in time", hurryAt("m0 0 3 0 999;", 999), 4);
    Check.due("T 999, late", hurryAt("m0 0 3 0 999;", 1000), 6);
    Check.due("late by far", hurryAt("m0 0 3 0 0;", 90999), 6);
    Check.says(7, "HURRY if it left now and spent nothing");
    Check.due("CALM 5 is not spent", hurryAt("m0 0 3 5 30;", 0), 3);
    HasteRoads most = Check.land("p0;m0 0 9 0 0;c0;");
    most.load(0, 9);
    most.await(0, 1);
    Check.due("the greatest", most.person(0, 7), 22);
  }

  /** Promise 8. */
  private static void takes() {
    HasteRoads x = Check.land("p0;p0;p0;r0 1 7;r1 2 1;r0 1 20;m0 1 4 0 30;c1;");
    Check.says(8, "leaves a PLACE at its end (either one)");
    Check.due("from A", x.takes(0, 0, 0, 0, 0), 21);
    Check.due("from B, where the CLOCK is", x.takes(0, 0, 1, 0, 0), 25);
    Check.due("from another PLACE", x.takes(0, 0, 2, 0, 0), Check.NOT);
    Check.due("wherever it is", x.takes(0, 1, 2, 0, 0), 3);
    Check.says(8, "at a minute (0 .. 99999)");
    Check.due("10 left", x.takes(0, 0, 0, 20, 0), 21);
    Check.due("9 left", x.takes(0, 0, 0, 21, 0), 25);
    Check.due("at T", x.takes(0, 0, 0, 30, 0), 25);
    Check.due("late", x.takes(0, 0, 0, 31, 0), 32);
    Check.due("minute 99999", x.takes(0, 0, 0, 99999, 0), 32);
    Check.due("minute 100000", x.takes(0, 0, 0, 100000, 0), Check.OUTSIDE);
    Check.due("minute -1", x.takes(0, 0, 0, -1, 0), Check.OUTSIDE);
    Check.says(8, "by spending s (0 .. 5, whatever CALM it has); HURRY less s; 0 at least");
    int[] lasts = {21, 18, 14, 11, 7, 7};
    for (int s = 0; s <= 5; s++) Check.due("s " + s, x.takes(0, 0, 0, 0, s), lasts[s]);
    Check.due("s 6", x.takes(0, 0, 0, 0, 6), Check.OUTSIDE);
    Check.due("s -1", x.takes(0, 0, 0, 0, -1), Check.OUTSIDE);
    Check.says(8, "L times (2 and HURRY), half of it, cut upwards");
    int[] mile = {3, 3, 2, 2, 1, 1};
    for (int s = 0; s <= 5; s++) Check.due("1 mile, s " + s, x.takes(0, 1, 2, 0, s), mile[s]);
    x.load(0, 9);
    Check.due("20 miles, HURRY 17", x.takes(0, 2, 1, 31, 0), 190);
    Check.due("the greatest", longest(), 240);
  }

  private static int longest() {
    HasteRoads x = Check.land("p0;p0;r0 1 20;m0 1 9 0 0;c0;");
    x.load(0, 9);
    return x.takes(0, 0, 0, 1, 0);
  }
}
