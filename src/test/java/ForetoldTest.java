/** Promises 15 to 27: what is foretold. */
public final class ForetoldTest {
  private static final Check CHECK = new Check();
  private static final String LINE = "lcf;.~^+...;p00w9;";

  public static void main(String[] args) {
    endsAndSteps();
    later();
    barred();
    judge();
    sides();
    crime();
    crimeByDoorsAndCourt();
    order();
    guard();
    meet();
    law();
    odds();
    drawn();
    CHECK.end();
  }

  private static void endsAndSteps() {
    NoonPaces x = Check.in(LINE);
    int[] owed = {0, 1, 2, 3, 4, 6, 7, 8, 9, 10, 99};
    int[] ends = {0, 0, 1, 1, 2, 2, 3, 4, 5, 6, 6};
    for (int k = 0; k < owed.length; k++) {
      CHECK.due("15 ends " + owed[k], x.ends(0, owed[k]), ends[k]);
      CHECK.due("16 steps " + owed[k], x.steps(0, owed[k]), ends[k]);
    }
    CHECK.due("15 changes nothing", x.cell(3), 4);
    int[][] bad = {{-1, 1}, {1, 1}, {0, -1}, {0, 100}};
    for (int[] b : bad) {
      CHECK.due("15 bad", x.ends(b[0], b[1]), NoonPaces.BAD);
      CHECK.due("16 bad", x.steps(b[0], b[1]), NoonPaces.BAD);
    }
    x = Check.in("lcf;......../........;c00w1;p50n1;d71n9;e11w3;");
    CHECK.due("15 a child by half", x.ends(0, 7), 3);
    CHECK.due("15 ahead of another", x.ends(0, 99), 4);
    CHECK.due("16 ahead of another", x.steps(0, 99), 4);
    CHECK.due("15 a drunk one", x.ends(2, 4), 11);
    CHECK.due("15 a drunk one ahead of another", x.ends(2, 40), 10);
  }

  private static void later() {
    NoonPaces x = Check.in("lco;.../.../...;b11n9;");
    int[] cells = {9, 17, 16, 0, 2, 18, 17, 17};
    for (int n = 0; n < cells.length; n++) CHECK.due("17 later " + n, x.later(0, n), cells[n]);
    CHECK.due("17 far later", x.later(0, 20), 17);
    CHECK.due("17 changes nothing", x.count(3), 0);
    CHECK.due("17 changes nothing", x.person(0, 1), 9);
    CHECK.due("17 bad", x.later(0, 21), NoonPaces.BAD);
    CHECK.due("17 bad", x.later(0, -1), NoonPaces.BAD);
    CHECK.due("17 bad", x.later(1, 1), NoonPaces.BAD);
    x = Check.in("lco;....;p00w5;p10w1;");
    CHECK.due("17 ahead of another", x.later(0, 1), 0);
    CHECK.due("17 behind him", x.later(0, 2), 1);
  }

  private static void isBarred(String text, int want) {
    NoonPaces x = Check.in(text);
    CHECK.due("18 " + text, x.barred(), want);
    CHECK.due("18 changes nothing", x.count(3), 0);
  }

  private static void barred() {
    isBarred("lcf;....;p00w5;p20w1;", 1);
    isBarred("lcf;....;p00w1;p20w1;", 0);
    isBarred("lcf;....;p00w2;p20w9;", 1);
    isBarred("lcf;..#.;p00w5;p30w1;", 0);
    isBarred("lcf;...;p00w5;p10w5;", 1);
    isBarred("lcf;...;p10w5;p00w5;", 2);
    isBarred("lcf;...;p10w0;p00w5;", 2);
    isBarred("lcf;..;p00w0;p10e0;", 0);
    isBarred("lcf;..;p00w1;p10e1;", 3);
    // words, not causes: a pace left and somebody next, though water or its cost would stop him too
    isBarred("lcf;..~;e00w5;p20n1;", 1);
    isBarred("lcf;.~;p00w1;p10n0;", 1);
    isBarred("lcf;..;c00w1;p10n0;", 0);
    isBarred("ltf;./.;p00w3;p01n3;", 1);
    CHECK.due("18 no town", new NoonPaces().barred(), NoonPaces.NOT);
  }

  private static void judge() {
    NoonPaces x = Check.in(LINE);
    int[] least = {0, 2, 4, 7, 8, 9, 10};
    for (int cell = 0; cell < 7; cell++) CHECK.due("19 judge " + cell, x.judge(0, cell), least[cell]);
    CHECK.due("19 beyond", x.judge(0, 7), NoonPaces.BAD);
    CHECK.due("19 beyond", x.judge(0, -1), NoonPaces.BAD);
    CHECK.due("19 no such one", x.judge(1, 0), NoonPaces.BAD);
    x = Check.in("lcf;...#./.....;c00w1;");
    CHECK.due("19 a child", x.judge(0, 1), 2);
    CHECK.due("19 a child", x.judge(0, 2), 4);
    CHECK.due("19 a wall", x.judge(0, 3), NoonPaces.NONE);
    CHECK.due("19 behind a wall", x.judge(0, 4), NoonPaces.NONE);
    CHECK.due("19 elsewhere", x.judge(0, 8), NoonPaces.NONE);
  }

  private static void sides() {
    NoonPaces x = Check.in("lcf;.../.../...;p11n0;");
    int[] cells = {1, 10, 17, 8, 9, 0};
    int[] plain = {4, 8, 1, 2, 15, 0};
    for (int k = 0; k < 6; k++) CHECK.due("20 sides " + cells[k], x.sides(0, cells[k]), plain[k]);
    x = Check.in("lcf;.../.../...;d11n0;");
    int[] drunk = {2, 4, 8, 1, 15, 0};
    for (int k = 0; k < 6; k++) CHECK.due("20 drunk " + cells[k], x.sides(0, cells[k]), drunk[k]);
    x = Check.in("ltf;.../.../...;p11w0;");
    int[] court = {0, 0, 15, 0, 15, 0};
    for (int k = 0; k < 6; k++) CHECK.due("20 court " + cells[k], x.sides(0, cells[k]), court[k]);
    CHECK.due("20 looks as ahead", x.person(0, 2), 3);
    CHECK.due("20 beyond", x.sides(0, 3), NoonPaces.BAD);
    CHECK.due("20 no such one", x.sides(1, 0), NoonPaces.BAD);
  }

  private static void isCrime(NoonPaces x, int cell, int least, int first) {
    CHECK.due("21 crime to " + cell, x.crime(0, cell, 0), least);
    CHECK.due("21 first walk to " + cell, x.crime(0, cell, 1), first);
  }

  private static void crime() {
    NoonPaces x = Check.in("lcf;........;p00n0;");
    isCrime(x, 0, 0, NoonPaces.NONE);
    isCrime(x, 1, 11, 30);
    isCrime(x, 2, 8, 31);
    isCrime(x, 3, 3, 30);
    isCrime(x, 4, 11, 30);
    isCrime(x, 5, 5, 31);
    isCrime(x, 6, 6, 30);
    isCrime(x, 7, 8, 30);
    CHECK.due("21 beyond", x.crime(0, 8, 0), NoonPaces.BAD);
    CHECK.due("21 what", x.crime(0, 1, 2), NoonPaces.BAD);
    CHECK.due("21 what", x.crime(0, 1, -1), NoonPaces.BAD);
    CHECK.due("21 no such one", x.crime(1, 1, 0), NoonPaces.BAD);
    x = Check.in("lcf;...#;p00n77;p20n0;");
    isCrime(x, 1, 3, 30);
    isCrime(x, 2, NoonPaces.NONE, NoonPaces.NONE);
    isCrime(x, 3, NoonPaces.NONE, NoonPaces.NONE);
    // a child has one pace by a lie, two by a blow
    x = Check.in("lcf;......;c00n0;");
    isCrime(x, 1, 3, 30);
    isCrime(x, 2, 5, 31);
    isCrime(x, 3, 8, 30);
    isCrime(x, 4, 9, 32);
    isCrime(x, 5, 12, 30);
  }

  private static void crimeByDoorsAndCourt() {
    // doors are shut again ahead of each walk: back from cell 3 he stops ahead of the door
    NoonPaces x = Check.in("lcf;.+...;p00n0;");
    isCrime(x, 1, 3, 30);
    isCrime(x, 2, 8, 31);
    isCrime(x, 3, 5, 31);
    isCrime(x, 4, 6, 30);
    CHECK.due("21 changes nothing", x.cell(1), 4);
    x = Check.in("ltf;.../.../.../...;p10w0;");
    isCrime(x, 25, 3, 0);
    isCrime(x, 9, NoonPaces.NONE, NoonPaces.NONE);
    isCrime(x, 0, NoonPaces.NONE, NoonPaces.NONE);
    x = Check.in("ltf;....;d30w0;");
    isCrime(x, 0, 3, 0);
  }

  private static void order() {
    NoonPaces x = Check.in("lcf;....;p00w5;p10w5;");
    CHECK.due("22 most", x.order(-1), 4);
    CHECK.due("22 first", x.order(0), 1);
    CHECK.due("22 second", x.order(1), 0);
    CHECK.due("22 fewer", x.order(2), NoonPaces.NONE);
    CHECK.due("22 far fewer", x.order(Integer.MAX_VALUE), NoonPaces.NONE);
    CHECK.due("22 bad", x.order(-2), NoonPaces.BAD);
    CHECK.due("22 changes nothing", x.person(0, 1), 0);
    x = Check.in("lcf;....;p00w0;p10w5;p30w5;");
    CHECK.due("22 who owes", x.order(-1), 1);
    CHECK.due("22 who owes", x.order(0), 1);
    CHECK.due("22 who owes", x.order(1), 2);
    CHECK.due("22 who owes", x.order(2), NoonPaces.NONE);
    // each walks once, though by OVER the first one still owes behind it
    x = Check.in("lco;.....;p10w9;p20w9;");
    CHECK.due("22 once each", x.order(-1), 4);
    CHECK.due("22 once each", x.order(0), 1);
    x = Check.in("lcf;....;p00w0;");
    CHECK.due("22 nobody", x.order(-1), 0);
    CHECK.due("22 nobody", x.order(0), NoonPaces.NONE);
    // five in a file: the last has to go first
    x = Check.in("lcf;.......;p00w9;p10w9;p20w9;p30w9;p40w9;");
    CHECK.due("22 a file", x.order(-1), 10);
    for (int k = 0; k < 5; k++) CHECK.due("22 a file", x.order(k), 4 - k);
    CHECK.due("22 no town", new NoonPaces().order(0), NoonPaces.NOT);
    CHECK.due("22 no town", new NoonPaces().order(-2), NoonPaces.BAD);
  }

  private static void isGuard(String text, int cell, int many, int first, int second) {
    NoonPaces x = Check.in(text);
    CHECK.due("23 " + text + " " + cell, x.guard(cell, 0), many);
    CHECK.due("23 first " + text + " " + cell, x.guard(cell, 1), first);
    CHECK.due("23 second " + text + " " + cell, x.guard(cell, 2), second);
    CHECK.due("23 changes nothing", x.count(6), 0);
  }

  private static void guard() {
    int none = NoonPaces.NONE;
    isGuard("lcf;.....;p00w9;", 4, 1, 1, none);
    isGuard("lcf;.....;p00w9;", 1, none, none, none);
    isGuard("lcf;.....;p00w9;", 0, 0, none, none);
    isGuard("lcf;.....;p00w0;", 4, 0, none, none);
    isGuard("lcf;.~.#.;p00w9;", 2, none, none, none);
    isGuard("lcf;.~..;p00w9;", 3, 1, 2, none);
    isGuard("lcf;.#.;p00w9;", 1, 0, none, none);
    isGuard("lcf;......./.......;p00w9;p60e9;", 3, 2, 1, 4);
    isGuard("lcf;...../...../.....;p00w4;p20n9;p40e0;", 18, 1, 10, none);
    // one from the west, one from the east, one from the north
    isGuard("lcf;...../...../.....;p01w9;p41e9;p20n9;", 10, none, none, none);
    // the first to come bars the rest: a wall in his way lets the next one in
    isGuard("lcf;..../..../....;p00w2;p22s9;", 2, 2, 1, 10);
    // a wall holds the first one back where he stands, and so the second one off
    isGuard("lcf;........;p10e9;p70e9;", 1, 1, 0, none);
    NoonPaces x = Check.in("lcf;.....;p00w9;");
    CHECK.due("23 beyond", x.guard(5, 0), NoonPaces.BAD);
    CHECK.due("23 beyond", x.guard(-1, 0), NoonPaces.BAD);
    CHECK.due("23 what", x.guard(0, 3), NoonPaces.BAD);
    CHECK.due("23 what", x.guard(0, -1), NoonPaces.BAD);
    CHECK.due("23 no town", new NoonPaces().guard(0, 0), NoonPaces.BAD);
  }

  private static void meet() {
    NoonPaces x = Check.in("lcf;........;p00n0;p70n0;");
    CHECK.due("24 now", x.meet(0, 1, 0), 7);
    CHECK.due("24 one turn", x.meet(0, 1, 1), 1);
    CHECK.due("24 one turn, the other first", x.meet(1, 0, 1), 1);
    CHECK.due("24 two turns", x.meet(0, 1, 2), 1);
    CHECK.due("24 the same", x.meet(0, 0, 1), NoonPaces.BAD);
    CHECK.due("24 no such one", x.meet(0, 2, 1), NoonPaces.BAD);
    CHECK.due("24 no such one", x.meet(-1, 0, 1), NoonPaces.BAD);
    CHECK.due("24 turns", x.meet(0, 1, 3), NoonPaces.BAD);
    CHECK.due("24 turns", x.meet(0, 1, -1), NoonPaces.BAD);
    x = Check.in("lcf;.../.../...;p00n0;p22n0;");
    CHECK.due("24 he runs", x.meet(0, 1, 1), 4);
    x = Check.in("lcf;#.#/.../#.#;p01n0;p21n0;");
    CHECK.due("24 he may do nothing", x.meet(0, 1, 1), 1);
    x = Check.in("ltf;./+/./#/.;p00n0;p04n0;");
    CHECK.due("24 court", x.meet(0, 1, 1), 2);
    CHECK.due("24 changes nothing", x.cell(8), 4);
    x = Check.in("lcf;.+....../#######.;p00n0;p20n0;");
    CHECK.due("24 to the door", x.meet(0, 1, 1), 6);
    CHECK.due("24 changes nothing", x.cell(1), 4);
    // a lie stops him just on the door; any other deed would take him too far
    CHECK.due("24 by a lie", Check.in("lcf;+++/.+.;p01n0;p00n0;").meet(0, 1, 1), 2);
    // found by a search, not by hand: with doors that fall shut again these would be 3, both
    CHECK.due("24 doors stay open", Check.in("lcf;.+./..+;c00n0;c01n0;").meet(0, 1, 2), 2);
    CHECK.due("24 doors stay open", Check.in("lcf;...+./.....;p40n0;c21n0;").meet(0, 1, 2), 4);
  }

  private static void law() {
    NoonPaces x = Check.in("lcf;.../.../.#.;p11e9;");
    int[][] want = {{0, 0}, {1, 8}, {0, 9}};
    for (int word = 1; word <= 3; word++) {
      CHECK.due("25 cells by " + word, x.law(word, 0), want[word - 1][0]);
      CHECK.due("25 owed by " + word, x.law(word, 1), want[word - 1][1]);
    }
    CHECK.due("25 changes nothing", x.count(8), 0);
    CHECK.due("25 changes nothing", x.count(9), 0);
    CHECK.due("25 changes nothing", x.count(3), 0);
    CHECK.due("25 word", x.law(0, 0), NoonPaces.BAD);
    CHECK.due("25 word", x.law(4, 0), NoonPaces.BAD);
    CHECK.due("25 what", x.law(1, 2), NoonPaces.BAD);
    CHECK.due("25 what", x.law(1, -1), NoonPaces.BAD);
    CHECK.due("25 no town", new NoonPaces().law(1, 0), NoonPaces.NOT);
    CHECK.due("25 no town", new NoonPaces().law(0, 0), NoonPaces.BAD);
    // a blind one goes round the town: five noons and no more
    x = Check.in("lcf;.../.../...;b11n9;");
    CHECK.due("25 five noons", x.law(2, 0), 8);
    CHECK.due("25 five noons", x.law(2, 1), 1);
    x = Check.in("lto;.../.../...;b11n9;");
    CHECK.due("25 caught", x.law(1, 0), 8);
    CHECK.due("25 caught and forgiven", x.law(3, 0), 1);
    CHECK.due("25 caught and forgiven", x.law(3, 1), 0);
  }

  private static void isOdds(NoonPaces x, int cell, int c, int above, int below) {
    CHECK.due("26 above " + cell + " by " + c, x.odds(cell, c, 0), above);
    CHECK.due("26 below " + cell + " by " + c, x.odds(cell, c, 1), below);
  }

  private static void odds() {
    NoonPaces x = Check.in("lcf;...;p00w1;p20e1;");
    isOdds(x, 1, 0, 1, 1);
    isOdds(x, 1, 2, 24, 25);
    isOdds(x, 1, 3, 91, 100);
    isOdds(x, 1, 5, 3, 4);
    isOdds(x, 1, 10, 0, 1);
    isOdds(x, 0, 5, 0, 1);
    // who owes nothing is not pardoned
    x = Check.in("lcf;....;p00w2;p30n0;");
    isOdds(x, 2, 3, 7, 10);
    isOdds(x, 3, 3, 0, 1);
    // the second gets there only if the first one has left, and the first one does not come back
    x = Check.in("lcf;....;p10w2;p00w9;");
    isOdds(x, 2, 4, 3, 5);
    isOdds(x, 1, 4, 9, 25);
    x = Check.in("lcf;....;p00w0;");
    isOdds(x, 1, 5, 0, 1);
    x = Check.in("lcf;.......;p00w9;p10w9;p20w9;p30w9;p40w9;p50w9;");
    isOdds(x, 6, 1, 9, 10);
    CHECK.due("26 beyond", x.odds(7, 1, 0), NoonPaces.BAD);
    CHECK.due("26 c", x.odds(0, -1, 0), NoonPaces.BAD);
    CHECK.due("26 c", x.odds(0, 11, 0), NoonPaces.BAD);
    CHECK.due("26 what", x.odds(0, 1, 2), NoonPaces.BAD);
    CHECK.due("26 what", x.odds(0, 1, -1), NoonPaces.BAD);
    CHECK.due("26 changes nothing", x.count(4), 54);
  }

  private static void drawn() {
    NoonPaces x = Check.in("lcf;........;p50n0;");
    int[] cells = {0, 3, 8, 8};
    int[] there = {1, 0, 0, 0};
    for (int n = 0; n < 4; n++) {
      CHECK.due("27 cells in " + n, x.drawn(n, 1, 0), cells[n]);
      CHECK.due("27 there behind " + n, x.drawn(n, 1, 1), there[n]);
    }
    CHECK.due("27 most noons, greatest seed", x.drawn(40, 999999, 0) >= 0 ? 1 : 0, 1);
    CHECK.due("27 changes nothing", x.person(0, 1), 5);
    CHECK.due("27 changes nothing", x.person(0, 5), 0);
    CHECK.due("27 n", x.drawn(41, 1, 0), NoonPaces.BAD);
    CHECK.due("27 n", x.drawn(-1, 1, 0), NoonPaces.BAD);
    CHECK.due("27 seed", x.drawn(1, 0, 0), NoonPaces.BAD);
    CHECK.due("27 seed", x.drawn(1, 1000000, 0), NoonPaces.BAD);
    CHECK.due("27 what", x.drawn(1, 1, 2), NoonPaces.BAD);
    CHECK.due("27 what", x.drawn(1, 1, -1), NoonPaces.BAD);
    CHECK.due("27 no town", new NoonPaces().drawn(1, 1, 0), NoonPaces.NOT);
    CHECK.due("27 no town", new NoonPaces().drawn(1, 0, 0), NoonPaces.BAD);
    // 16807 leaves 1 by 3: the second of three lies and looks east, so he walks west
    x = Check.in("lcf;......../......../........;p50n0;p51n0;p52n0;");
    CHECK.due("27 one of three", x.drawn(1, 1, 0), 3);
    CHECK.due("27 the others stand", x.drawn(1, 1, 1), 2);
  }
}
