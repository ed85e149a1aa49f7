/** The boundary cases of part 2 of "Terms" and of promises 8 to 14: each sentence by rows of its own. */
public final class ActsEdgesTest {
  private static final Check CHECK = new Check();
  private static final String ROW8 = "........";
  private static final String SQUARE = ROW8 + ("/" + ROW8).repeat(7);

  public static void main(String[] args) {
    sides();
    paces();
    costs();
    doors();
    stops();
    elders();
    rest();
    blind();
    noons();
    deeds();
    mostOwed();
    acts();
    undone();
    look();
    build();
    image();
    restore();
    CHECK.end();
  }

  private static void row(String sentence, String town, String calls) {
    Edges.row(CHECK, sentence, town, calls);
  }

  /** One NOON: CELLS entered; of the first one where he is, what he OWES, where he LOOKS. */
  private static void walks(String sentence, String town, int cells, int at, int owes, int looks) {
    row(sentence, town, "noon = " + cells + ", person 0 1 = " + at + ", person 0 3 = " + owes + ", person 0 2 = " + looks
        + ", person 0 4 = " + cells);
  }

  private static void sides() {
    String letters = "nesw";
    int[] opposite = {17, 8, 1, 10};
    int[] left = {8, 1, 10, 17};
    for (int side = 0; side < 4; side++) {
      String tail = letters.charAt(side) + "5;";
      for (char sort : "pce".toCharArray()) {
        int owes = sort == 'c' ? 1 : 4;
        walks("to the SIDE opposite", "lco;.../.../...;" + sort + "11" + tail, 1, opposite[side], owes, side);
        walks("by COURT as if he LOOKED north", "lto;.../.../...;" + sort + "11" + tail, 1, 17, owes, side);
      }
      walks("to the SIDE opposite", "lco;.../.../...;b11" + tail, 1, opposite[side], 4, (side + 1) % 4);
      walks("by COURT as if he LOOKED north", "lto;.../.../...;b11" + tail, 1, 17, 4, (side + 1) % 4);
      walks("a DRUNK one to his left", "lco;.../.../...;d11" + tail, 1, left[side], 4, side);
      walks("by COURT a DRUNK one as if he LOOKED north", "lto;.../.../...;d11" + tail, 1, 8, 4, side);
    }
  }

  private static void paces() {
    for (int owes = 1; owes <= 9; owes++) {
      int cells = Math.min(7, owes);
      walks("as many PACES as he OWES", "lco;" + ROW8 + ";p00w" + owes + ";", cells, cells, owes - cells, 3);
    }
    int[] owed = {1, 2, 3, 4, 5, 13, 14, 15, 16, 99};
    int[] entered = {0, 1, 1, 2, 2, 6, 7, 7, 7, 7};
    int[] left = {0, 0, 0, 0, 0, 0, 0, 0, 1, 42};
    for (int k = 0; k < owed.length; k++) {
      walks("a CHILD half", "lco;" + ROW8 + ";c00w" + owed[k] + ";", entered[k], entered[k], left[k], 3);
    }
    walks("99", "lco;" + ROW8 + ";p00w99;", 7, 7, 92, 3);
  }

  private static void costs() {
    walks("STREET 1", "lco;..;p00w1;", 1, 1, 0, 3);
    walks("STREET 1: no PACE", "lco;..;c00w1;", 0, 0, 0, 3);
    walks("DOOR 3: one fewer", "lco;.+;p00w2;", 0, 0, 2, 3);
    walks("DOOR 3", "lco;.+;p00w3;", 1, 1, 0, 3);
    walks("DOOR 3: one more", "lco;.+;p00w4;", 1, 1, 1, 3);
    walks("WATER 2: one fewer", "lco;.~;p00w1;", 0, 0, 1, 3);
    walks("WATER 2", "lco;.~;p00w2;", 1, 1, 0, 3);
    walks("WATER 2: one more", "lco;.~;p00w3;", 1, 1, 1, 3);
    walks("HILL 2: one fewer", "lco;.^;p00w1;", 0, 0, 1, 3);
    walks("HILL 2", "lco;.^;p00w2;", 1, 1, 0, 3);
    walks("HILL 2: one more", "lco;.^;p00w3;", 1, 1, 1, 3);
    walks("so many fewer then", "lco;.~^+..;p00w7;", 3, 3, 0, 3);
    walks("so many fewer then", "lco;.~^+..;p00w8;", 4, 4, 0, 3);
    walks("so many fewer then", "lco;.~^+..;p00w10;", 5, 5, 1, 3);
    walks("so many fewer then", "lco;..+;p00w3;", 1, 1, 2, 3);
    walks("the one that he leaves costs nothing", "lco;+.;p00w1;", 1, 1, 0, 3);
    walks("the one that he leaves costs nothing", "lco;~.;e00w1;", 1, 1, 0, 3);
    walks("the dearest walk", "lco;.+++++++;p00w21;", 7, 7, 0, 3);
    walks("the dearest walk: one fewer", "lco;.+++++++;p00w20;", 6, 6, 2, 3);
    walks("the dearest walk of a CHILD", "lco;.+++++++;c00w42;", 7, 7, 0, 3);
    walks("the dearest walk of a CHILD: one fewer", "lco;.+++++++;c00w41;", 6, 6, 2, 3);
  }

  private static void doors() {
    row("a STREET from then on", "lco;.+.;p00w4;", "cell 1 = 4, noon = 2, cell 1 = 0");
    row("a STREET from then on: he stops on it", "lco;.+;p00w3;", "noon = 1, cell 1 = 0");
    row("a STREET only once entered", "lco;.+;p00w2;", "noon = 0, cell 1 = 4");
    row("a STREET only once entered", "lco;.+;p00w9;p10w0;", "noon = 0, cell 1 = 4");
    row("a STREET from then on: for the next one", "lco;.+./...;p00w4;p11s1;", "noon = 3, person 1 1 = 1, person 1 3 = 0");
    row("a DOOR until then", "lco;.+./...;p11s1;p00w4;", "noon = 2, person 0 1 = 9, person 0 3 = 1");
    row("a STREET from then on: at the next NOON", "lco;.+.;p00w4;", "noon = 2, look 0 1 = 3, deed 0 0 = 3, noon = 2, person 0 3 = 1");
    row("WATER and HILL stay", "lco;.~^;p00w4;", "noon = 2, cell 1 = 2, cell 2 = 3");
    row("a DOOR on which one stood is one", "lco;+.;p00w1;", "noon = 1, cell 0 = 4");
  }

  private static void stops() {
    walks("at the end of the TOWN", "lco;.../...;p11n9;", 0, 9, 9, 0);
    walks("at the end of the TOWN", "lco;.../...;p01e9;", 0, 8, 9, 1);
    walks("at the end of the TOWN", "lco;.../...;p10s9;", 0, 1, 9, 2);
    walks("at the end of the TOWN", "lco;.../...;p20w9;", 0, 2, 9, 3);
    walks("at the end of the greatest TOWN", "lco;" + SQUARE + ";p00n9;", 7, 56, 2, 0);
    walks("at the end of the greatest TOWN", "lco;" + SQUARE + ";p77e9;", 7, 56, 2, 1);
    walks("at the end of the greatest TOWN", "lco;" + SQUARE + ";p77s9;", 7, 7, 2, 2);
    walks("at the end of the greatest TOWN", "lco;" + SQUARE + ";p00w9;", 7, 7, 2, 3);
    walks("at the end of the greatest TOWN", "lco;" + SQUARE + ";p70w9;", 0, 7, 9, 3);
    walks("at the end of the greatest TOWN", "lco;" + SQUARE + ";p01e9;", 0, 8, 9, 1);
    walks("ahead of a WALL", "lco;.#.;p00w9;", 0, 0, 9, 3);
    walks("ahead of a WALL", "lco;..#.;p00w9;", 1, 1, 8, 3);
    walks("ahead of who stands there", "lco;...;p00w9;p10n0;", 0, 0, 9, 3);
    walks("ahead of who stands there", "lco;....;p00w9;p20n0;", 1, 1, 8, 3);
    row("ahead of who stands there and OWES nothing", "lco;....;p00w0;p20e9;", "noon = 1, person 1 1 = 1, person 1 3 = 8");
    walks("beside who stands there", "lco;.../...;p00w9;p01n0;p11n0;", 2, 2, 7, 3);
  }

  private static void elders() {
    for (char sort : "eb".toCharArray()) {
      int looks = sort == 'b' ? 0 : 3;
      walks("an ELDER (BLIND, too) ahead of WATER", "lco;.~;" + sort + "00w9;", 0, 0, 9, looks);
      walks("an ELDER (BLIND, too) ahead of WATER", "lco;..~;" + sort + "00w9;", 1, 1, 8, looks);
      walks("an ELDER (BLIND, too) ahead of a HILL", "lco;.^;" + sort + "00w9;", 0, 0, 9, looks);
      walks("an ELDER (BLIND, too) ahead of a HILL", "lco;..^;" + sort + "00w9;", 1, 1, 8, looks);
      walks("an ELDER (BLIND, too) not ahead of a DOOR", "lco;.+.;" + sort + "00w9;", 2, 2, 5, looks);
      walks("an ELDER (BLIND, too) leaves WATER", "lco;~.~;" + sort + "00w9;", 1, 1, 8, looks);
    }
    walks("others not ahead of WATER", "lco;.~.;p00w9;", 2, 2, 6, 3);
    walks("others not ahead of a HILL", "lco;.^.;p00w9;", 2, 2, 6, 3);
    walks("others not ahead of WATER", "lco;.~.;c00w9;", 2, 2, 1, 3);
    walks("others not ahead of a HILL", "lco;.^.;c00w9;", 2, 2, 1, 3);
    walks("others not ahead of WATER", "lco;.~.;d00s9;", 2, 2, 6, 2);
    walks("others not ahead of a HILL", "lco;.^.;d00s9;", 2, 2, 6, 2);
  }

  private static void rest() {
    walks("by FORGIVEN he OWES nothing", "lcf;...;p00w1;", 1, 1, 0, 3);
    walks("by FORGIVEN he OWES nothing", "lcf;...;p00w99;", 2, 2, 0, 3);
    walks("by FORGIVEN he OWES nothing, though he entered none", "lcf;.#;p00w99;", 0, 0, 0, 3);
    walks("by OVER as much as he has PACES left", "lco;...;p00w99;", 2, 2, 97, 3);
    walks("by OVER as much as he has PACES left: all", "lco;.#;p00w99;", 0, 0, 99, 3);
    walks("by OVER as much as he has PACES left: none", "lco;...;p00w2;", 2, 2, 0, 3);
    walks("by OVER a CHILD what is left of half", "lco;.#;c00w99;", 0, 0, 49, 3);
    walks("by OVER a CHILD what is left of half", "lco;..#;c00w5;", 1, 1, 1, 3);
  }

  private static void blind() {
    row("a BLIND one LOOKS to the next SIDE", "lco;.;b00n9;", "noon = 0, person 0 2 = 1, noon = 0, person 0 2 = 2, noon = 0, "
        + "person 0 2 = 3, noon = 0, person 0 2 = 0, noon = 0, person 0 2 = 1");
    row("only when he WALKS", "lcf;.;b00n9;", "noon = 0, person 0 2 = 1, noon = 0, person 0 2 = 1, deed 0 0 = 3, noon = 0, "
        + "person 0 2 = 2");
    row("only when he WALKS", "lco;.;b00w0;", "noon = 0, person 0 2 = 3");
    row("by COURT, too", "lto;.;b00w1;", "noon = 0, person 0 2 = 0, noon = 0, person 0 2 = 1");
    row("no other one", "lco;....;p00n9;c10e9;d20s9;e30w9;", "noon = 0, person 0 2 = 0, person 1 2 = 1, person 2 2 = 2, "
        + "person 3 2 = 3");
  }

  private static void noons() {
    row("all who OWE something (1 or more)", "lco;../../..;p00w1;p01w0;p02w2;", "noon = 2, person 0 1 = 1, person 1 1 = 8, "
        + "person 2 1 = 17");
    row("by numbers", "lcf;.......;p50w1;p40w1;p30w1;p20w1;p10w1;p00w1;", "noon = 6, person 5 1 = 1, person 0 1 = 6");
    row("each as all others stand then", "lcf;.......;p00w1;p10w1;p20w1;p30w1;p40w1;p50w1;", "noon = 1, person 0 1 = 0, "
        + "person 4 1 = 4, person 5 1 = 6");
    row("then it is the next NOON", "lcf;..;p00w1;", "count 3 = 0, noon = 1, count 3 = 1, noon = 0, count 3 = 2");
    row("how many CELLS in all", "lcf;" + SQUARE + ";p00w9;p01w9;p02w9;p03w9;p04w9;p05w9;", "noon = 42, count 5 = 42, person 5 4 = 7");
    row("NOT: no TOWN", "", "noon = NOT, count 3 = 0");
    // FULL is told in ActsTest: no object gets there in 512 calls
  }

  private static void deeds() {
    int[] fines = {3, 5, 9, 30};
    for (int deed = 0; deed < 4; deed++) {
      int f = fines[deed];
      String one = "deed 0 " + deed + " = ";
      row("3, 5, 9, 30", "lcf;.;p00n0;", one + f + ", person 0 3 = " + f);
      row("so many more", "lcf;.;p00n8;", one + (8 + f));
      row("1 more for each such DEED ahead of it", "lcf;.;p00n0;", one + f + ", " + one + (2 * f + 1) + ", " + one + (3 * f + 3));
      int other = (deed + 1) % 4;
      row("such a DEED alone", "lcf;.;p00n0;", "deed 0 " + other + ", deed 0 " + other + ", undo, " + one + (f + fines[other]));
      row("a DEED of his", "lcf;..;p00n0;p10n0;", "deed 1 " + deed + " = " + f + ", " + one + f);
      row("also ahead of the NOON", "lcf;..;p00w0;", one + f + ", noon = 1, " + one + (f + 1));
      row("not such as were undone", "lcf;..;p00w0;", one + f + ", undo = 0, " + one + f);
    }
    row("a DEED is no NOON", "lcf;..;p00w0;", "deed 0 0 = 3, count 3 = 0, person 0 1 = 0");
    row("a DEED (0 .. 3)", "lcf;.;p00n0;", "deed 0 -1 = BAD, deed 0 4 = BAD, deed 0 max = BAD, deed 0 min = BAD, count 6 = 0");
    row("one is there", "lcf;.;p00n0;", "deed -1 0 = BAD, deed 1 0 = BAD, deed max 0 = BAD, deed min 0 = BAD, count 6 = 0");
  }

  private static void mostOwed() {
    int[] fines = {3, 5, 9, 30};
    for (int deed = 0; deed < 4; deed++) {
      int just = 99 - fines[deed];
      row("99 at most: one fewer", "lcf;.;p00n" + (just - 1) + ";", "deed 0 " + deed + " = 98, person 0 3 = 98");
      row("99 at most: just", "lcf;.;p00n" + just + ";", "deed 0 " + deed + " = 99, person 0 3 = 99");
      row("99 at most: one more", "lcf;.;p00n" + (just + 1) + ";", "deed 0 " + deed + " = 99, person 0 3 = 99");
      row("99 at most", "lcf;.;p00n99;", "deed 0 " + deed + " = 99, person 0 " + (5 + deed) + " = 1, deed 0 " + deed
          + " = 99, noon = 0, deed 0 " + deed + " = " + (fines[deed] + 2));
    }
    row("99 at most: the second LIE", "lcf;.;p00n91;", "deed 0 0 = 94, deed 0 0 = 98");
    row("99 at most: the second LIE", "lcf;.;p00n92;", "deed 0 0 = 95, deed 0 0 = 99");
    row("99 at most: the second LIE", "lcf;.;p00n93;", "deed 0 0 = 96, deed 0 0 = 99");
    row("99 at most: many", "lcf;..;p00w0;", "deed 0 0 *100 = 99, person 0 5 = 100, noon = 1, deed 0 0 = 99, person 0 5 = 101, "
        + "undo = 23, undo = 22, deed 0 1 = 99");
    row("99 of each", "lcf;......;p00n99;p10n99;p20n99;p30n99;p40n99;p50n99;", "count 4 = 594, deed 5 3 = 99, count 4 = 594");
  }

  private static void acts() {
    String two = "lcf;..~;p00w9;b10n9;";
    row("a NOON is an ACT", two, "noon, count 6 = 1, undo = 0");
    row("a DEED is an ACT", two, "deed 0 0, count 6 = 1, undo = 0");
    row("that one LOOKS elsewhere is an ACT", two, "look 0 0, count 6 = 1, undo = 0");
    row("a CELL built up is an ACT", two, "build 2 1, count 6 = 1, undo = 0");
    row("a CELL cleared is an ACT", two, "build 2 0, count 6 = 1, undo = 0");
    row("no others are", two, "noon, image 0 = 1, image 1 = 1, count 6 = 1, put lc, count 6 = 1, sheet 0 0 3, item 0 0 0 1, "
        + "copy 0 0 0 1 1, film 0 1 0 0 0 = NOT, drop 0, count 6 = 1, later 0 9, order 0, drawn 9 9 0, count 6 = 1, undo = 0");
    row("what is refused is none", two, "look 0 3 = NOT, look 0 4 = BAD, deed 0 4 = BAD, build 0 1 = NOT, build 1 1 = NOT, "
        + "build 0 0 = NOT, build 3 1 = BAD, undo = NONE, restore 0 = NOT, image 2 = BAD, town = fault 0, count 6 = 0");
    row("also such by which nothing becomes another", "lcf;..;p00w0;", "noon = 0, count 6 = 1, undo = 0, count 3 = 0");
    row("also such by which nothing becomes another", "lco;.#;p00w99;", "noon = 0, noon = 0, count 6 = 2, deed 0 3 = 99, "
        + "count 6 = 3, undo = 2, undo = 1, undo = 0, undo = NONE, count 3 = 0");
    row("none ahead of the first", two, "undo = NONE, count 6 = 0, person 0 1 = 0, count 3 = 0");
    row("undone is no ACT", two, "deed 0 0, deed 0 0, undo = 1, undo = 0, undo = NONE, undo = NONE, person 0 5 = 0");
  }

  private static void undone() {
    String one = "lcf;.;p00n0;";
    for (int acts = 22; acts <= 27; acts++) {
      int kept = Math.min(24, acts);
      row("the latest 24", one, "deed 0 0 *" + acts + ", count 6 = " + kept + ", undo *" + kept + " = 0, undo = NONE, person 0 5 = "
          + (acts - kept) + ", count 6 = 0");
    }
    row("the latest 24, of all sorts", "lcf;..;p00w0;", "build 1 1 = 0, noon *9 = 0, deed 0 0 *8, look 0 0 = 3, look 0 1 = 0, "
        + "look 0 2 = 1, look 0 3 = 2, build 1 0 = 1, build 1 1 = 0, build 1 0 = 1, count 6 = 24, undo *24 = 0, undo = NONE, "
        + "cell 1 = 1, count 3 = 0, person 0 5 = 0, person 0 2 = 3");
    row("the latest first", one, "deed 0 1 = 5, deed 0 3 = 35, look 0 2 = 0, undo = 2, person 0 2 = 0, person 0 3 = 35, undo = 1, "
        + "person 0 3 = 5, person 0 8 = 0, person 0 6 = 1, undo = 0, person 0 3 = 0, person 0 6 = 0");
    row("then others", one, "deed 0 0 *30, undo *10 = 14, person 0 5 = 20, deed 0 0 *9, count 6 = 23, deed 0 0, count 6 = 24, "
        + "deed 0 0 *2, count 6 = 24, undo *24 = 0, person 0 5 = 8, undo = NONE, person 0 5 = 8, deed 0 0, count 6 = 1, undo = 0, "
        + "person 0 5 = 8");
    row("all of a NOON", "lco;.+../..~#;b00w9;c11e4;", "noon = 4, person 0 1 = 3, person 0 2 = 0, person 0 3 = 4, person 1 1 = 8, "
        + "person 1 3 = 1, cell 1 = 0, count 3 = 1, count 5 = 4, undo = 0, person 0 1 = 0, person 0 2 = 3, person 0 3 = 9, "
        + "person 0 4 = 0, person 1 1 = 9, person 1 3 = 4, person 1 4 = 0, cell 1 = 4, count 3 = 0, count 5 = 0, on 0 = 0, on 3 = NONE");
    row("all of the last of six", "lco;" + ROW8 + "/" + ROW8 + ";p00n0;p10n0;p20n0;p30n0;p40n0;b50w9;", "deed 5 3 = 39, noon = 2, deed 5 3 = 68, "
        + "look 5 1 = 0, noon = 2, person 5 1 = 5, person 5 4 = 4, undo = 4, person 5 1 = 7, person 5 4 = 2, person 5 2 = 1, undo = 3, "
        + "person 5 2 = 0, undo = 2, person 5 3 = 37, person 5 8 = 1, undo = 1, person 5 1 = 5, person 5 2 = 3, person 5 3 = 39, "
        + "person 5 4 = 0, undo = 0, person 5 3 = 9, person 5 8 = 0, undo = NONE");
    row("the last CELL", "lco;" + SQUARE.substring(0, 70) + "+;p67w9;", "noon = 1, cell 63 = 0, undo = 0, cell 63 = 4, build 63 1 = 4, undo = 0, "
        + "cell 63 = 4, build 63 0 = 4, build 63 1 = 0, undo = 1, cell 63 = 0, undo = 0, cell 63 = 4");
    row("a DEED", one, "deed 0 2 = 9, deed 0 2 = 19, undo = 1, person 0 7 = 1, person 0 3 = 9, deed 0 2 = 19");
    row("a LOOK", "lcf;.;p00w0;", "look 0 1 = 3, undo = 0, person 0 2 = 3, look 0 3 = NOT");
    row("what was built up", "lcf;.~^+.;p00w0;", "build 1 1 = 2, build 2 1 = 3, build 3 1 = 4, build 4 1 = 0, undo = 3, cell 4 = 0, "
        + "undo = 2, cell 3 = 4, undo = 1, cell 2 = 3, undo = 0, cell 1 = 2");
    row("what was cleared", "lcf;.~^+#;p00w0;", "build 1 0 = 2, build 2 0 = 3, build 3 0 = 4, build 4 0 = 1, undo = 3, cell 4 = 1, "
        + "undo = 2, cell 3 = 4, undo = 1, cell 2 = 3, undo = 0, cell 1 = 2");
  }

  private static void look() {
    String letters = "nesw";
    for (int from = 0; from < 4; from++) {
      for (int to = 0; to < 4; to++) {
        String town = "lcf;..;p00e0;p10" + letters.charAt(from) + "0;";
        if (from == to) row("NOT: he does", town, "look 1 " + to + " = NOT, person 1 2 = " + from + ", count 6 = 0");
        else row("to which he did", town, "look 1 " + to + " = " + from + ", person 1 2 = " + to + ", person 0 2 = 1");
      }
    }
    row("a SIDE", "lcf;.;p00n0;", "look 0 -1 = BAD, look 0 4 = BAD, look 0 max = BAD, look 0 min = BAD, person 0 2 = 0");
    row("one is there", "lcf;.;p00n0;", "look -1 0 = BAD, look 1 0 = BAD, look max 1 = BAD, look min 1 = BAD");
    row("where a BLIND one LOOKS then", "lco;.;b00n9;", "noon = 0, look 0 1 = NOT, look 0 0 = 1");
    row("by COURT, too", "ltf;../..;p00n9;", "look 0 3 = 0, person 0 2 = 3, noon = 1, person 0 1 = 8");
  }

  private static void build() {
    String town = "lcf;..#~^+/......;p00n0;";
    int[] grounds = {0, 0, 1, 2, 3, 4};
    for (int cell = 1; cell <= 5; cell++) {
      int was = grounds[cell];
      String up = was == 1 ? " = NOT" : " = " + was;
      String cleared = was == 0 ? " = NOT" : " = " + was;
      row("built up (1): a WALL", town, "build " + cell + " 1" + up + ", cell " + cell + " = 1");
      row("cleared (0): a STREET", town, "build " + cell + " 0" + cleared + ", cell " + cell + " = 0");
      row("NOT: it is so", town, "build " + cell + " 1, build " + cell + " 1 = NOT, build " + cell + " 0 = 1, build " + cell
          + " 0 = NOT, cell " + cell + " = 0");
    }
    row("NOT: one stands where a WALL would be", "lcf;.~^+;p00n0;c10n0;d20n0;e30n0;", "build 0 1 = NOT, build 1 1 = NOT, "
        + "build 2 1 = NOT, build 3 1 = NOT, cell 0 = 0, cell 1 = 2, cell 2 = 3, cell 3 = 4, count 6 = 0");
    row("but cleared below him", "lcf;.~^+;p00n0;c10n0;d20n0;e30n0;", "build 0 0 = NOT, build 1 0 = 2, build 2 0 = 3, "
        + "build 3 0 = 4, on 3 = 3, count 6 = 3");
    row("where one stood", "lcf;..;p00w1;", "build 0 1 = NOT, noon = 1, build 0 1 = 0, build 1 1 = NOT");
    row("up", town, "build 1 -1 = BAD, build 1 2 = BAD, build 1 max = BAD, build 1 min = BAD, cell 1 = 0, count 6 = 0");
    for (String beyond : new String[] {"-1", "6", "7", "14", "16", "21", "24", "29", "56", "61", "63", "64", "max", "min"}) {
      row("a CELL is inside", town, "build " + beyond + " 0 = BAD, build " + beyond + " 1 = BAD, count 6 = 0");
    }
    row("BAD ahead of NOT", town, "build 2 2 = BAD, build 0 2 = BAD, build 0 -1 = BAD");
    row("who WALKS stops ahead of it", "lco;....;p00w9;", "build 2 1 = 0, noon = 1, build 2 0 = 1, noon = 2, person 0 3 = 6");
  }

  private static void image() {
    String one = "lco;...;p00w9;";
    row("an IMAGE (0, 1)", one, "image 0 = 0, image 1 = 0, image -1 = BAD, image 2 = BAD, image max = BAD, image min = BAD");
    row("the NOON", one, "noon, noon, noon, image 1 = 3");
    row("NOT: no TOWN", "", "image 0 = NOT, image 1 = NOT, restore 0 = NOT");
    row("BAD ahead of NOT", "", "image 2 = BAD, image -1 = BAD");
    row("the TOWN stays", one, "deed 0 0 = 12, image 0 = 0, count 6 = 1, person 0 3 = 12, undo = 0, person 0 3 = 9");
    row("kept as it is now", one, "image 0 = 0, deed 0 0 = 12, noon = 2, build 0 1 = 0, look 0 0 = 3, restore 0 = 0, person 0 3 = 9, "
        + "person 0 1 = 0, person 0 2 = 3, person 0 4 = 0, person 0 5 = 0, cell 0 = 0, count 3 = 0");
    row("one for each", one, "image 0 = 0, noon = 2, image 1 = 1, restore 0 = 0, person 0 1 = 0, restore 1 = 1, person 0 1 = 2");
    row("in place of the one before", one, "image 0 = 0, noon = 2, image 0 = 1, restore 0 = 1, person 0 1 = 2");
    row("refused keeps none", one, "image 0 = 0, noon = 2, image 2 = BAD, image -1 = BAD, restore 0 = 0, restore 1 = NOT");
  }

  private static void restore() {
    String one = "lco;.+.;p00w9;";
    row("an IMAGE (0, 1)", one, "image 0, image 1, restore 0 = 0, restore 1 = 0, restore -1 = BAD, restore 2 = BAD, "
        + "restore max = BAD, restore min = BAD");
    row("NOT: none was kept", one, "restore 0 = NOT, restore 1 = NOT, image 1 = 0, restore 0 = NOT, restore 1 = 0");
    row("BAD ahead of NOT", "", "restore 2 = BAD, restore -1 = BAD, restore 1 = NOT");
    row("nothing can be undone then", one, "image 0, noon, noon, count 6 = 2, restore 0 = 0, count 6 = 0, undo = NONE, count 3 = 0, "
        + "noon = 2, undo = 0, undo = NONE");
    row("NOT lets undo", one, "noon, restore 0 = NOT, restore 2 = BAD, count 6 = 1, undo = 0, count 3 = 0");
    row("also the second time", one, "image 0, noon = 2, restore 0 = 0, deed 0 0 = 12, noon = 2, cell 1 = 0, restore 0 = 0, "
        + "cell 1 = 4, person 0 1 = 0, person 0 3 = 9, person 0 5 = 0");
    row("undone is not the IMAGE", one, "image 0, deed 0 0 = 12, restore 0 = 0, deed 0 1 = 14, undo = 0, restore 0 = 0, "
        + "person 0 3 = 9, deed 0 1 = 14");
    row("after another TOWN", one, "noon = 2, image 0 = 1, read ltf;./.;c01n5;b00n0; = 2, restore 0 = 1, count 0 = 1, count 1 = 3, "
        + "count 2 = 1, count 8 = 0, count 9 = 1, person 0 0 = 1, person 0 1 = 2, person 0 3 = 5, person 0 4 = 2, cell 1 = 0, "
        + "cell 8 = BAD");
    row("all else stays", one, "image 0, put lc, sheet 0 2 3, restore 0 = 0, count 7 = 2, drop 0 = 3");
    row("all of the last of six", "lco;" + ROW8 + "/" + ROW8 + ";p00n0;p10n0;p20n0;p30n0;p40n0;b50w9;", "deed 5 3 = 39, noon = 2, image 1 = 1, "
        + "read lcf;......;p00n1;p10n1;p20n1;p30n1;p40n1;p50n1;, restore 1 = 1, person 5 0 = 5, person 5 1 = 7, person 5 2 = 0, person 5 3 = 37, "
        + "person 5 4 = 2, person 5 8 = 1, count 5 = 2");
    row("the last CELL", "lco;" + SQUARE.substring(0, 70) + "+;p67w9;", "image 0 = 0, noon = 1, restore 0 = 0, cell 63 = 4, build 63 1 = 4, "
        + "restore 0 = 0, cell 63 = 4");
  }
}
