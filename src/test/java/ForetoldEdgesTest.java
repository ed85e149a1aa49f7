/** The boundary cases of part 3 of "Terms" and of promises 15 to 27: each sentence by rows of its own. */
public final class ForetoldEdgesTest {
  private static final Check CHECK = new Check();
  private static final String ROW8 = "........";
  /** A CHILD ahead of six DOORS: only a THEFT (4 PACES) and a MURDER (15) bring him through one, or five. */
  private static final String DOORS = "lcf;.++++++;c00n0;";
  private static final String FILE = "lcf;.......;p50w1;p40w1;p30w1;p20w1;p10w1;p00w1;";

  public static void main(String[] args) {
    endsAndSteps();
    walkingAlone();
    later();
    barred();
    judge();
    sides();
    crime();
    crimeByWays();
    order();
    guard();
    guardByStreets();
    meet();
    law();
    odds();
    drawn();
    cellsBeyond();
    CHECK.end();
  }

  private static void row(String sentence, String town, String calls) {
    Edges.row(CHECK, sentence, town, calls);
  }

  private static void endsAndSteps() {
    String two = "lcf;" + ROW8 + "/" + ROW8 + ";p00w50;c01w0;";
    row("n 0: not at all", two, "ends 0 0 = 0, steps 0 0 = 0, ends 1 0 = 8, steps 1 0 = 0");
    row("n 1", two, "ends 0 1 = 1, steps 0 1 = 1, ends 1 1 = 8, steps 1 1 = 0");
    row("n 99", two, "ends 0 99 = 7, steps 0 99 = 7, ends 1 99 = 15, steps 1 99 = 7");
    row("n (0 .. 99)", two, "ends 0 -1 = BAD, ends 0 100 = BAD, ends 0 max = BAD, ends 0 min = BAD, steps 0 -1 = BAD, "
        + "steps 0 100 = BAD, steps 0 max = BAD, steps 0 min = BAD");
    row("one is there", two, "ends -1 1 = BAD, ends 2 1 = BAD, ends max 1 = BAD, ends min 1 = BAD, steps -1 1 = BAD, "
        + "steps 2 1 = BAD, steps max 1 = BAD, steps min 1 = BAD");
    row("who would OWE n, not what he does", two, "ends 0 3 = 3, steps 0 3 = 3, ends 1 6 = 11, steps 1 6 = 3");
    int[] owed = {0, 1, 2, 3, 4, 6, 7, 8, 9};
    int[] ends = {0, 0, 1, 1, 2, 2, 3, 4, 4};
    for (int k = 0; k < owed.length; k++) {
      row("as long as he has as many PACES", "lcf;.~^+.#;p00w0;", "ends 0 " + owed[k] + " = " + ends[k] + ", steps 0 " + owed[k]
          + " = " + ends[k]);
    }
  }

  private static void walkingAlone() {
    row("all others standing as they do", "lcf;....;p10w9;p00w9;", "ends 1 9 = 0, steps 1 9 = 0, ends 0 9 = 3");
    row("ahead of who stands there", "lcf;.....;p30w0;p00w9;", "ends 1 9 = 2, steps 1 9 = 2");
    row("an ELDER ahead of WATER", "lcf;..~.;e00w0;", "ends 0 99 = 1, steps 0 99 = 1");
    row("by COURT", "ltf;.../.../...;d11n0;p12e0;b21s0;", "ends 0 9 = 8, ends 1 9 = 17, ends 2 9 = 18");
    row("nothing changes: DOORS", "lco;.+.;p00w9;", "steps 0 9 = 2, ends 0 9 = 2, steps 0 3 = 1, steps 0 2 = 0, cell 1 = 4, "
        + "person 0 1 = 0, person 0 3 = 9, count 3 = 0, count 5 = 0, count 6 = 0");
    row("nothing changes: where a BLIND one LOOKS", "lco;..;b00w9;", "ends 0 9 = 1, ends 0 9 = 1, person 0 2 = 3");
  }

  private static void later() {
    String round = "lco;.../.../...;b11n99;";
    int[] cells = {9, 17, 16, 0, 2, 18, 16, 0, 2, 18, 16, 0, 2, 18, 16, 0, 2, 18, 16, 0, 2};
    for (int n = 0; n <= 20; n++) row("behind n NOONS", round, "later 0 " + n + " = " + cells[n]);
    row("n (0 .. 20)", round, "later 0 -1 = BAD, later 0 21 = BAD, later 0 max = BAD, later 0 min = BAD");
    row("one is there", round, "later -1 0 = BAD, later 1 0 = BAD, later max 1 = BAD, later min 1 = BAD");
    row("all others WALK as well", "lco;....;p00w5;p10w1;", "later 0 0 = 0, later 0 1 = 0, later 0 2 = 1, later 1 1 = 2, later 0 3 = 1");
    row("by FORGIVEN", "lcf;....;p00w2;", "later 0 1 = 2, later 0 2 = 2, later 0 20 = 2");
    row("nothing changes", round, "later 0 20 = 2, count 3 = 0, person 0 1 = 9, person 0 2 = 0, person 0 3 = 99, count 6 = 0, later 0 1 = 17");
  }

  private static void isBarred(String sentence, String town, int set) {
    row(sentence, town, "barred = " + set + ", barred = " + set + ", count 3 = 0, person 0 4 = 0");
  }

  private static void barred() {
    isBarred("with a PACE or more left: none", "lcf;...;p00w1;p20n0;", 0);
    isBarred("with a PACE or more left: one", "lcf;...;p00w2;p20n0;", 1);
    isBarred("with a PACE or more left: two", "lcf;...;p00w3;p20n0;", 1);
    isBarred("with a PACE or more left: a CHILD", "lcf;..;c00w1;p10n0;", 0);
    isBarred("with a PACE or more left: a CHILD", "lcf;..;c00w2;p10n0;", 1);
    isBarred("who WALKS in it", "lcf;..;p00w0;p10n0;", 0);
    isBarred("who WALKS in it", "lcf;..;p00w1;p10e0;", 1);
    isBarred("who WALKS in it", "lcf;..;p00w1;p10e1;", 3);
    isBarred("somebody stands on the next CELL: the end", "lcf;..;p00w5;p10w0;", 1);
    isBarred("somebody stands on the next CELL: the end", "lcf;...;p00w5;", 0);
    isBarred("somebody stands on the next CELL: the end", "lcf;../..;p10w5;p01n0;", 0);
    isBarred("somebody stands on the next CELL: a WALL", "lcf;.#.;p00w5;p20n0;", 0);
    isBarred("somebody stands on the next CELL: too dear", "lcf;.+.;p00w2;p20n0;", 0);
    isBarred("somebody stands on the next CELL: too dear, but somebody", "lcf;.+;p00w2;p10n0;", 1);
    isBarred("somebody stands on the next CELL: an ELDER ahead of WATER", "lcf;.~.;e00w5;p20n0;", 0);
    isBarred("somebody stands on the next CELL: an ELDER ahead of WATER", "lcf;.~;e00w5;p10n0;", 1);
    isBarred("stands then", "lcf;...;p00w5;p10w5;", 1);
    isBarred("stands then", "lcf;...;p10w5;p00w5;", 2);
    isBarred("stands then: who has come there", "lcf;.../...;p11s5;p00w9;", 2);
    isBarred("to that SIDE", "ltf;./.;p00w3;p01n0;", 1);
    isBarred("to that SIDE", "ltf;..;p00w3;p10n0;", 0);
    isBarred("to that SIDE: a DRUNK one", "lcf;..;d10n9;p00n0;", 1);
    isBarred("to that SIDE: a DRUNK one", "lcf;../..;d00n9;p01n0;", 0);
    isBarred("to that SIDE: a BLIND one", "lcf;..;b00w9;p10n0;", 1);
    isBarred("to that SIDE: a BLIND one", "lcf;../..;b11n9;p01e0;", 0);
    isBarred("also by OVER", "lco;...;p00w2;p20n0;", 1);
    row("NOT: no TOWN", "", "barred = NOT");
  }

  private static void judge() {
    String line = "lcf;.~^+..#.;p00w50;";
    int[] least = {0, 2, 4, 7, 8, 9};
    for (int cell = 0; cell < 6; cell++) row("the least", line, "judge 0 " + cell + " = " + least[cell]);
    row("NONE", line, "judge 0 6 = NONE, judge 0 7 = NONE");
    row("NONE: somebody stands there", "lcf;...;p00w1;p20n0;", "judge 0 1 = 1, judge 0 2 = NONE, judge 1 0 = NONE");
    row("0: he is there", "lcf;.#;p00w50;", "judge 0 0 = 0");
    row("the dearest", "lcf;.+++++++;c00w0;", "judge 0 7 = 42, judge 0 6 = 36, judge 0 1 = 6");
    row("BAD", line, "judge 0 8 = BAD, judge 0 -1 = BAD, judge 0 64 = BAD, judge 0 max = BAD, judge 0 min = BAD, "
        + "judge 1 0 = BAD, judge -1 0 = BAD, judge max 0 = BAD, judge min 0 = BAD");
    row("nothing changes", line, "judge 0 5 = 9, person 0 3 = 50, person 0 1 = 0, cell 3 = 4, count 6 = 0");
  }

  private static void sides() {
    row("0: he is there, by all", "lcf;.;p00n0;", "sides 0 0 = 15");
    row("none", "lcf;.../.../...;p11n0;", "sides 0 0 = 0, sides 0 2 = 0, sides 0 16 = 0, sides 0 18 = 0");
    row("one", "lcf;.../.../...;p11w0;", "sides 0 1 = 4, sides 0 10 = 8, sides 0 17 = 1, sides 0 8 = 2");
    row("by something (0 .. 99) OWED: the dearest", "lcf;.+++++++;c00w0;", "sides 0 7 = 8, sides 0 0 = 15");
    row("by COURT all or none", "ltf;./.;p00w0;", "sides 0 8 = 15, sides 0 0 = 15");
    row("not where somebody stands", "lcf;..;p00n0;p10n0;", "sides 0 1 = 0, sides 1 0 = 0");
    row("not where a WALL is", "lcf;.#;p00n0;", "sides 0 1 = 0");
    row("BAD", "lcf;..;p00n0;", "sides 0 2 = BAD, sides 0 8 = BAD, sides 0 -1 = BAD, sides 0 64 = BAD, sides 0 max = BAD, "
        + "sides 0 min = BAD, sides 1 0 = BAD, sides -1 0 = BAD, sides max 0 = BAD, sides min 0 = BAD");
    row("nothing changes", "lcf;..;b00w5;", "sides 0 1 = 8, person 0 2 = 3, person 0 3 = 5, person 0 1 = 0, count 6 = 0");
  }

  private static void isCrime(String sentence, String town, int cell, String least, String first) {
    row(sentence, town, "crime 0 " + cell + " 0 = " + least + ", crime 0 " + cell + " 1 = " + first);
  }

  private static void crime() {
    isCrime("0: he is there now; NONE: none is needed", DOORS, 0, "0", "NONE");
    isCrime("0: he is there now; NONE: none is needed", "lcf;.;p00n99;", 0, "0", "NONE");
    isCrime("NONE: by none", "lcf;.#.;p00n9;", 2, "NONE", "NONE");
    isCrime("NONE: by none: a WALL", "lcf;.#.;p00n9;", 1, "NONE", "NONE");
    isCrime("NONE: by none: somebody stands there", "lcf;...;p00n9;p20n9;", 2, "NONE", "NONE");
    isCrime("NONE: by none: behind somebody", "lcf;...;p00n9;p10w9;", 2, "NONE", "NONE");
    isCrime("NONE: by none: by COURT", "ltf;./.;p01n0;", 0, "NONE", "NONE");
    isCrime("a LIE 3", "lcf;" + ROW8 + ";p00n0;", 3, "3", "30");
    isCrime("a BLOW 5", "lcf;" + ROW8 + ";p00n0;", 5, "5", "31");
    isCrime("a THEFT 9", DOORS, 1, "9", "32");
    isCrime("a MURDER 30", DOORS, 5, "30", "33");
    isCrime("together", DOORS, 4, "36", "32");
    isCrime("the least first WALK", DOORS, 6, "39", "32");
    isCrime("the least first WALK", "lcf;../..;p00n0;", 9, "6", "0");
    isCrime("10 times the SIDE, and the DEED", "lcf;" + ROW8 + ";p70n0;", 4, "3", "10");
    isCrime("10 times the SIDE, and the DEED", "lcf;" + ROW8 + ";p70n0;", 2, "5", "11");
    isCrime("10 times the SIDE, and the DEED", "lcf;./././././.;p05n0;", 16, "3", "20");
    isCrime("10 times the SIDE, and the DEED", "lcf;./././././.;p00n0;", 40, "5", "1");
    isCrime("10 times the SIDE, and the DEED: a DRUNK one", "lcf;....;d00n0;", 3, "3", "20");
    row("what (0, 1)", DOORS, "crime 0 1 -1 = BAD, crime 0 1 2 = BAD, crime 0 1 max = BAD, crime 0 1 min = BAD");
    row("a CELL is inside", DOORS, "crime 0 7 0 = BAD, crime 0 8 0 = BAD, crime 0 -1 0 = BAD, crime 0 64 1 = BAD, crime 0 max 0 = BAD, "
        + "crime 0 min 0 = BAD");
    row("one is there", DOORS, "crime 1 0 0 = BAD, crime -1 0 0 = BAD, crime max 0 0 = BAD, crime min 0 1 = BAD");
    row("BAD ahead of NONE", "lcf;.#.;p00n9;", "crime 0 2 2 = BAD, crime 0 0 2 = BAD, crime 1 2 1 = BAD");
  }

  private static void crimeByWays() {
    isCrime("over and over", "lcf;" + ROW8 + ";p00n0;", 1, "11", "30");
    isCrime("over and over", "lcf;" + ROW8 + ";p00n0;", 7, "8", "30");
    isCrime("over and over, from WATER", "lcf;.~~~~;p00n0;", 3, "8", "30");
    isCrime("over and over, from a HILL", "lcf;.^^^^;p00n0;", 3, "8", "30");
    isCrime("over and over, from a DOOR", "lcf;.++..;p00n0;", 2, "6", "30");
    isCrime("he LOOKS anywhere", "lcf;....../#####./......;p00n0;", 16, "13", "31");
    isCrime("OWES just the 3 of that", "lcf;" + ROW8 + ";p00w99;", 3, "3", "30");
    row("OWES just the 3 of that", "lcf;" + ROW8 + ";p00w0;", "deed 0 0 = 3, deed 0 1 = 8, crime 0 3 0 = 3, crime 0 5 0 = 5, "
        + "crime 0 4 0 = 11");
    row("OWES just the 30 of that", DOORS, "deed 0 3 *6 = 99, crime 0 6 0 = 39, crime 0 5 0 = 30, deed 0 2 *8, crime 0 2 0 = 18");
    isCrime("all DOORS being as now", "lcf;.+...;p00n0;", 2, "8", "31");
    isCrime("all others being as now", "lcf;" + ROW8 + ";p00n0;p40e9;", 3, "3", "30");
    isCrime("all others being as now", "lcf;" + ROW8 + ";p00n0;p40e9;", 2, "NONE", "NONE");
    isCrime("he where he came to", "lcf;......;p20n0;", 3, "6", "10");
    isCrime("an ELDER ahead of WATER", "lcf;..~.;e00n0;", 1, "3", "30");
    isCrime("an ELDER ahead of WATER", "lcf;..~.;e00n0;", 3, "NONE", "NONE");
    isCrime("CELL 0 is left southwards", "lcf;./.;p00n0;", 8, "3", "0");
    // the only way goes by the last CELL
    String corner = "lcf;" + "#######./".repeat(7) + ROW8 + ";";
    isCrime("by the last CELL", corner + "p47n0;", 63, "3", "30");
    isCrime("by the last CELL", corner + "p47n0;", 39, "6", "30");
    isCrime("by the last CELL", corner + "p47n0;", 7, "11", "30");
    isCrime("from the last CELL", corner + "p77n0;", 7, "8", "20");
    isCrime("from the last CELL", corner + "p77n0;", 60, "3", "10");
    isCrime("from the last CELL", corner + "p77n0;", 63, "0", "NONE");
    isCrime("by COURT all SIDES are one", "ltf;./././.;p00w0;", 24, "3", "0");
    row("nothing changes", DOORS, "crime 0 5 0 = 30, crime 0 5 1 = 33, cell 1 = 4, cell 5 = 4, person 0 1 = 0, person 0 8 = 0, "
        + "person 0 3 = 0, count 6 = 0");
  }

  private static void order() {
    String back = "lcf;.......;p00w1;p10w1;p20w1;p30w1;p40w1;p50w1;";
    row("the one by which most CELLS are entered", back, "order -1 = 6, order 0 = 5, order 1 = 4, order 2 = 3, order 3 = 2, "
        + "order 4 = 1, order 5 = 0, order 6 = NONE");
    row("of several the first (by numbers)", "lcf;../..;p00w1;p01w1;", "order -1 = 2, order 0 = 0, order 1 = 1, order 2 = NONE");
    row("of several the first (by numbers)", "lcf;..../....;p00w9;p10w9;p01w9;", "order -1 = 7, order 0 = 1, order 1 = 0, "
        + "order 2 = 2");
    row("of several the first (by numbers)", "lcf;......;p00n9;p10n9;p20n9;p30n9;p40n9;p50n9;", "order -1 = 0, order 0 = 0, "
        + "order 1 = 1, order 2 = 2, order 3 = 3, order 4 = 4, order 5 = 5, order 6 = NONE");
    orders(new int[6], 0);
    row("of those who OWE", "lcf;....;p00w0;p10w1;", "order -1 = 1, order 0 = 1, order 1 = NONE");
    row("of those who OWE: none", "lcf;..;p00w0;", "order -1 = 0, order 0 = NONE, order 1 = NONE");
    row("of those who OWE: one", "lcf;...;p00w9;", "order -1 = 2, order 0 = 0, order 1 = NONE");
    row("of those who OWE: one who enters none", "lcf;..;c00w1;", "order -1 = 0, order 0 = 0, order 1 = NONE");
    row("at this NOON", "lco;....;p00w9;p10w1;", "order -1 = 2, order 0 = 1, order 1 = 0");
    row("each as all others stand then", "lcf;.+./...;p11s2;p00w4;", "order -1 = 3, order 0 = 1, order 1 = 0");
    row("k (-1, 0 on)", back, "order -2 = BAD, order min = BAD, order max = NONE, order 7 = NONE");
    row("NOT: no TOWN", "", "order -1 = NOT, order 0 = NOT, order max = NOT");
    row("BAD ahead of NOT, NOT ahead of NONE", "", "order -2 = BAD, order min = BAD, order 6 = NOT");
    row("nothing changes", back, "order 0 = 5, person 0 1 = 0, person 5 1 = 5, count 4 = 6, count 3 = 0, count 5 = 0, count 6 = 0");
  }

  /** Six in a file, numbered in any way: only from the front to the back do all of them enter a CELL. */
  private static void orders(int[] front, int size) {
    if (size == 6) {
      StringBuilder town = new StringBuilder("lcf;.......;");
      StringBuilder calls = new StringBuilder("order -1 = 6");
      for (int one = 0; one < 6; one++) {
        int place = 0;
        while (front[place] != one) place++;
        town.append('p').append(5 - place).append("0w1;");
        calls.append(", order ").append(one).append(" = ").append(front[one]);
      }
      row("of all rows", town.toString(), calls.toString());
    }
    for (int one = 0; one < 6 && size < 6; one++) {
      boolean free = true;
      for (int k = 0; k < size; k++) free &= front[k] != one;
      front[size] = one;
      if (free) orders(front, size + 1);
    }
  }

  private static void isGuard(String sentence, String town, int cell, String many, String first, String second) {
    row(sentence, town, "guard " + cell + " 0 = " + many + ", guard " + cell + " 1 = " + first + ", guard " + cell + " 2 = " + second);
  }

  private static void guard() {
    String three = "lcf;...../...../...../...../.....;p02w9;p42e9;p20n9;";
    isGuard("0 .. 2: none would do", three, 18, "NONE", "NONE", "NONE");
    isGuard("0 .. 2: two", three.replace("p20n9", "p20n0"), 18, "2", "17", "19");
    isGuard("0 .. 2: two", three.replace("p42e9", "p42e0"), 18, "2", "10", "17");
    isGuard("0 .. 2: one", three.replace("p42e9;p20n9", "p42e0;p20n0"), 18, "1", "17", "NONE");
    isGuard("0 .. 2: none is needed", three.replace("9", "0"), 18, "0", "NONE", "NONE");
    isGuard("of like ones with the least first", "lcf;.....;p00w9;", 4, "1", "1", "NONE");
    isGuard("of like ones with the least first, then second one", "lcf;......./.......;p00w9;p60e9;", 3, "2", "1", "4");
    isGuard("at this NOON", "lco;.....;p00w2;", 3, "0", "NONE", "NONE");
    isGuard("at this NOON: who OWE something", "lco;.....;p00w0;", 1, "0", "NONE", "NONE");
    isGuard("nobody enters it: one who stands there", "lcf;..;p10n9;", 1, "0", "NONE", "NONE");
    isGuard("nobody enters it: a WALL", "lcf;.#;p00w9;", 1, "0", "NONE", "NONE");
    isGuard("nobody enters it: one who passes", "lcf;....;p00w9;", 2, "1", "1", "NONE");
    row("what (0 .. 2)", three, "guard 18 -1 = BAD, guard 18 3 = BAD, guard 18 max = BAD, guard 18 min = BAD");
    row("a CELL is inside", three, "guard -1 0 = BAD, guard 5 0 = BAD, guard 40 0 = BAD, guard 64 0 = BAD, guard max 0 = BAD, "
        + "guard min 0 = BAD, guard 36 0 = 0");
    row("BAD ahead of NONE", three, "guard 18 3 = BAD, guard 5 1 = BAD, guard 36 3 = BAD, guard 16 -1 = BAD");
    row("BAD ahead of NONE", "lcf;.#;p00w9;", "guard 1 3 = BAD, guard 1 -1 = BAD, guard 1 1 = NONE");
    row("nothing changes", three, "guard 18 0 = NONE, guard 19 0, cell 17 = 0, cell 18 = 0, person 0 1 = 16, count 3 = 0, count 6 = 0");
  }

  private static void guardByStreets() {
    isGuard("not that CELL", "lcf;..;p00w9;", 1, "NONE", "NONE", "NONE");
    isGuard("STREETS: no DOOR", "lcf;.+.;p00w9;", 2, "NONE", "NONE", "NONE");
    isGuard("STREETS: no WATER", "lcf;.~.;p00w9;", 2, "NONE", "NONE", "NONE");
    isGuard("STREETS: no HILL", "lcf;.^.;p00w9;", 2, "NONE", "NONE", "NONE");
    // the DOOR is a STREET ahead of the second one, but none now; the first one held on it bars him
    isGuard("STREETS now", "lcf;..../.+../....;p01w9;p12s2;", 1, "1", "10", "NONE");
    // who leaves cell 1 southwards lets the other one in: not by a wall on cell 1, on which he stands, but below him
    isGuard("on which nobody stands", "lcf;..../....;p10n9;p00w9;", 2, "1", "9", "NONE");
    isGuard("to be built up now, ahead of all", "lcf;.....;p10w1;p00w9;", 1, "1", "2", "NONE");
    // a wall in the first one's way lets the second one in: two are needed
    isGuard("the fewest", "lcf;..../..../....;p00w2;p22s9;", 2, "2", "1", "10");
    // a wall holds the first one on the CELL, and so the second one off
    isGuard("a wall on CELL 0", "lcf;" + ROW8 + ";p10e9;p70e9;", 1, "1", "0", "NONE");
    isGuard("a wall on the last CELL", "lcf;" + "########/".repeat(7) + "~~~~~~~.;p67w9;p07w12;", 62, "1", "63", "NONE");
    // one wall holds the first one, the other one stops the third
    isGuard("walls side by side", "lcf;..../..../....;p10n9;p00w9;p22s9;", 2, "2", "9", "10");
    isGuard("CELL 0", "lcf;...;p20e9;", 0, "1", "1", "NONE");
    isGuard("the last CELL", "lcf;" + ROW8 + ("/" + ROW8).repeat(7) + ";p07w9;", 63, "1", "57", "NONE");
  }

  private static void meet() {
    String corner = "lcf;.../.../...;p00n0;p22n0;";
    row("n 0: how far apart they are (columns and rows)", corner, "meet 0 1 0 = 4, meet 1 0 0 = 4");
    for (int column = 0; column < 8; column++) {
      for (int row = 0; row < 8; row++) {
        if (column == 5 && row == 2) continue;
        int apart = Math.abs(5 - column) + Math.abs(2 - row);
        row("columns and rows together", "lcf;" + ROW8 + ("/" + ROW8).repeat(7) + ";p52n0;p" + column + row + "n0;", "meet 0 1 0 = " + apart
            + ", meet 1 0 0 = " + apart);
      }
    }
    row("n (0 .. 2)", corner, "meet 0 1 -1 = BAD, meet 0 1 3 = BAD, meet 0 1 max = BAD, meet 0 1 min = BAD");
    row("the same", corner, "meet 0 0 0 = BAD, meet 1 1 2 = BAD");
    row("both are there", corner, "meet 0 2 0 = BAD, meet 2 0 0 = BAD, meet -1 0 0 = BAD, meet 0 -1 0 = BAD, meet 0 max 0 = BAD, "
        + "meet max 0 0 = BAD, meet 0 min 0 = BAD, meet min 0 0 = BAD, meet -1 -1 0 = BAD, meet 2 2 0 = BAD");
    row("both are there", "lcf;.;p00n0;", "meet 0 0 0 = BAD, meet 0 1 0 = BAD");
    row("neither can go", "lcf;..;p00n0;p10n0;", "meet 0 1 0 = 1, meet 0 1 1 = 1, meet 0 1 2 = 1, meet 1 0 2 = 1");
    String line = "lcf;...;p00n0;p10n0;";
    row("the one wanting it little, the other one great", line, "meet 0 1 1 = 2, meet 1 0 1 = 1");
    row("in n turns each", line, "meet 0 1 0 = 1, meet 0 1 2 = 2, meet 1 0 2 = 1");
    // in two turns, too, the other one comes to cell 6 and goes back to 7 behind the child's last turn
    String child = "lcf;.+++++..;c00n0;p70n0;";
    row("by a MURDER 30", child, "meet 0 1 0 = 7, meet 0 1 1 = 2, meet 0 1 2 = 2");
    row("OWES just the 30 of that", child.replace("n0", "n99"), "meet 0 1 1 = 2, meet 0 1 2 = 2");
    row("OWES just the 30 of that, done before, too", "lcf;.++++++.;c00n0;p70n0;", "deed 0 3 *6 = 99, meet 0 1 1 = 2");
    row("by a THEFT 9", "lcf;.+#..;c00n0;p40n0;", "meet 0 1 0 = 4, meet 0 1 1 = 3, meet 0 1 2 = 3");
    // a lie stops him just on the door; any other deed would take him too far
    row("by a LIE 3", "lcf;+++/.+.;p01n0;p00n0;", "meet 0 1 1 = 2");
    // found by a search, not by hand: with doors that fall shut again they would be 3, 3; by doors opened elsewhere 3
    row("DOORS stay open then", "lcf;.+./..+;c00n0;c01n0;", "meet 0 1 2 = 2");
    row("DOORS stay open then", "lcf;...+./.....;p40n0;c21n0;", "meet 0 1 2 = 4");
    row("DOORS that were entered, no others", "lcf;../../+.;p02n0;c12n0;", "meet 0 1 2 = 2");
    row("he does nothing", "lcf;#.#/.../#.#;p01n0;p21n0;", "meet 0 1 1 = 1");
    // whoever goes south first, the other one stays; if he stays, the other one goes
    row("he LOOKS anywhere, by COURT to no avail", "ltf;..../..../....;p00n0;p30n0;", "meet 0 1 1 = 5, meet 1 0 1 = 5");
    row("how far apart at last", "lcf;" + ROW8 + ";p00n0;p70n0;", "meet 0 1 1 = 1, meet 1 0 1 = 1, meet 0 1 2 = 1");
    row("nothing changes", child, "meet 0 1 2 = 2, cell 1 = 4, cell 5 = 4, person 0 1 = 0, person 0 8 = 0, person 0 2 = 0, count 6 = 0");
  }

  private static void law() {
    String wall = "lcf;.../.../.#.;p11e9;";
    row("1 the other LOOK", wall, "law 1 0 = 0, law 1 1 = 0");
    row("2 the other REST", wall, "law 2 0 = 1, law 2 1 = 8");
    row("3 both", wall, "law 3 0 = 0, law 3 1 = 9");
    row("1 the other LOOK", wall.replace("lcf", "lto"), "law 1 0 = 1, law 1 1 = 8");
    row("2 the other REST", wall.replace("lcf", "lto"), "law 2 0 = 0, law 2 1 = 0");
    row("3 both", wall.replace("lcf", "lto"), "law 3 0 = 1, law 3 1 = 0");
    row("a word (1 .. 3)", wall, "law 0 0 = BAD, law 4 0 = BAD, law -1 0 = BAD, law max 0 = BAD, law min 0 = BAD");
    row("what (0, 1)", wall, "law 1 -1 = BAD, law 1 2 = BAD, law 2 max = BAD, law 3 min = BAD");
    row("NOT: no TOWN", "", "law 1 0 = NOT, law 2 1 = NOT, law 3 0 = NOT");
    row("BAD ahead of NOT", "", "law 0 0 = BAD, law 4 0 = BAD, law 1 2 = BAD, law 1 -1 = BAD");
    row("the next 5 NOONS", "lcf;.../.../...;b11n9;", "law 2 0 = 8, law 2 1 = 1, law 1 0 = 1, law 1 1 = 0");
    row("all that is OWED then", "lcf;.#./...;p00w9;c01e9;", "law 2 0 = 0, law 2 1 = 9");
    row("nothing changes", wall, "law 3 1 = 9, law 2 0 = 1, count 8 = 0, count 9 = 0, count 3 = 0, count 4 = 9, person 0 1 = 9, "
        + "count 5 = 0, count 6 = 0");
  }

  private static void odds() {
    int[] above = {1, 531441, 4096, 117649, 729, 1, 64, 729, 1, 1, 0};
    int[] below = {1, 1000000, 15625, 1000000, 15625, 64, 15625, 1000000, 15625, 1000000, 1};
    for (int c = 0; c <= 10; c++) {
      row("by c tenths, six by themselves", FILE, "odds 1 " + c + " 0 = " + above[c] + ", odds 1 " + c + " 1 = " + below[c]);
    }
    row("c (0 .. 10)", FILE, "odds 1 -1 0 = BAD, odds 1 11 0 = BAD, odds 1 max 0 = BAD, odds 1 min 1 = BAD");
    row("what (0, 1)", FILE, "odds 1 1 -1 = BAD, odds 1 1 2 = BAD, odds 1 1 max = BAD, odds 1 1 min = BAD");
    row("a CELL is inside", FILE, "odds -1 1 0 = BAD, odds 7 1 0 = BAD, odds 8 1 0 = BAD, odds 64 1 0 = BAD, odds max 1 0 = BAD, "
        + "odds min 1 1 = BAD");
    row("that somebody enters it: the first one alone", FILE, "odds 6 1 0 = 9, odds 6 1 1 = 10");
    row("that somebody enters it: nobody", FILE, "odds 0 1 0 = 0, odds 0 1 1 = 1, odds 0 0 0 = 0, odds 0 0 1 = 1");
    row("each who OWES something", "lcf;...;p00w0;p20e2;", "odds 1 3 0 = 7, odds 1 3 1 = 10");
    row("each who OWES something: none", "lcf;...;p00w0;", "odds 1 0 0 = 0, odds 1 0 1 = 1, odds 1 10 0 = 0, odds 1 10 1 = 1");
    row("pardoned, he stands in the way", "lcf;....;p10w2;p00w9;", "odds 1 4 0 = 9, odds 1 4 1 = 25, odds 2 4 0 = 3, odds 2 4 1 = 5");
    row("either one", "lcf;...;p00w1;p20e1;", "odds 1 2 0 = 24, odds 1 2 1 = 25, odds 1 5 0 = 3, odds 1 5 1 = 4, odds 1 9 0 = 19, "
        + "odds 1 9 1 = 100");
    row("at this NOON", "lco;....;p00w2;p30n0;", "odds 3 0 0 = 0, odds 2 0 0 = 1");
    row("nothing changes", FILE, "odds 1 5 1 = 64, count 4 = 6, person 0 1 = 5, count 3 = 0, count 6 = 0");
  }

  private static void drawn() {
    String one = "lcf;" + ROW8 + ";p50n0;";
    row("n (0 .. 40)", one, "drawn 0 1 0 = 0, drawn 0 1 1 = 1, drawn -1 1 0 = BAD, drawn 41 1 0 = BAD, drawn max 1 0 = BAD, "
        + "drawn min 1 0 = BAD");
    row("a SEED 1 .. 999999", one, "drawn 0 999999 1 = 1, drawn 1 0 0 = BAD, drawn 1 -1 0 = BAD, drawn 1 1000000 0 = BAD, "
        + "drawn 1 max 0 = BAD, drawn 1 min 0 = BAD");
    row("what (0, 1)", one, "drawn 1 1 -1 = BAD, drawn 1 1 2 = BAD, drawn 1 1 max = BAD, drawn 1 1 min = BAD");
    row("NOT: no TOWN", "", "drawn 0 1 0 = NOT, drawn 40 999999 1 = NOT");
    row("BAD ahead of NOT", "", "drawn 41 1 0 = BAD, drawn -1 1 0 = BAD, drawn 1 0 0 = BAD, drawn 1 1000000 0 = BAD, drawn 1 1 2 = BAD");
    // 16807 by 8 leaves 0 by 4, by 32 leaves 1: a LIE, and he LOOKS east; then 282475249: a THEFT, and west
    row("the first X, and the next", one, "drawn 1 1 0 = 3, drawn 1 1 1 = 0, drawn 2 1 0 = 8");
    row("the rest of X by how many there are", "lcf;......../......../........;p50n0;p51n0;p52n0;", "drawn 1 1 0 = 3, drawn 1 1 1 = 2");
    row("nothing changes", one, "drawn 2 1 0 = 8, person 0 1 = 5, person 0 2 = 0, person 0 5 = 0, person 0 7 = 0, count 3 = 0, count 6 = 0");
    // reckoned by a program of its own in another language
    String six = "lcf;" + ROW8 + ("/" + ROW8).repeat(7) + ";p00n0;c22n0;d44n0;e66n0;b17n0;p71n9;";
    String three = "lco;..~.+../#.....^/..+..../.~...#./......+/^....../...+...;p33n5;c00e9;b66s2;";
    row("the least and the greatest SEED", six, "drawn 1 1 0 = 7, drawn 1 1 1 = 4, drawn 3 1 0 = 18, drawn 1 999999 0 = 9, "
        + "drawn 3 999999 0 = 11, drawn 3 999999 1 = 2");
    row("40 NOONS, and 39", six, "drawn 39 1 0 = 105, drawn 40 1 0 = 109, drawn 40 1 1 = 1, drawn 39 2 0 = 78, drawn 40 2 0 = 82, "
        + "drawn 40 999999 0 = 93, drawn 40 4242 1 = 0");
    row("40 NOONS, and 39", three, "drawn 39 1 0 = 147, drawn 39 1 1 = 0, drawn 40 1 0 = 157, drawn 40 1 1 = 1, drawn 40 999998 0 = 139, "
        + "drawn 39 4242 0 = 128, drawn 40 4242 0 = 133, drawn 40 999999 0 = 137");
  }

  private static void cellsBeyond() {
    String town = "lcf;.../...;p00w9;";
    row("a CELL is inside", town, "judge 0 10 = NONE, sides 0 10 = 0, crime 0 10 0 = 6, guard 10 0 = 0, odds 10 5 0 = 0");
    for (String beyond : new String[] {"-1", "-8", "3", "7", "11", "15", "16", "18", "24", "26", "32", "56", "58", "63", "64", "72",
      "max", "min"}) {
      row("a CELL is beyond", town, "judge 0 " + beyond + " = BAD, sides 0 " + beyond + " = BAD, crime 0 " + beyond + " 0 = BAD, crime 0 " + beyond
          + " 1 = BAD, guard " + beyond + " 0 = BAD, guard " + beyond + " 1 = BAD, odds " + beyond + " 5 0 = BAD, odds " + beyond + " 5 1 = BAD");
    }
  }
}
