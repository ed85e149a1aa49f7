/** The boundary cases of part 4 of "Terms" and of promises 28 to 36: each sentence by rows of its own. */
public final class SheetsEdgesTest {
  private static final Check CHECK = new Check();
  /** One who WALKS east along seven STREETS as far as he OWES. */
  private static final String LINE = "lcf;........;p00w5;";
  /** Of six people each enters a CELL of his own, 0 to 5, by one PACE: an item is known by who would make it. */
  private static final String MARKERS = "lcf;....../......;p01s1;p11s1;p21s1;p31s1;p41s1;p51s1;";

  public static void main(String[] args) {
    sheet();
    drop();
    itemOfLanes();
    itemRefused();
    copy();
    copyRefused();
    film();
    filmRefused();
    marks();
    who();
    due();
    sorts();
    marksRefused();
    count();
    CHECK.end();
  }

  private static void row(String sentence, String town, String calls) {
    Edges.row(CHECK, sentence, town, calls);
  }

  private static void sheet() {
    for (int lane = 0; lane < 4; lane++) {
      String on = " " + lane + " ";
      row("of 0 to 24 items: 0", "", "sheet 0" + on + "0 = 0, item 0" + on + "0 1 = INDEX, drop 0 = 0");
      row("of 0 to 24 items: 1", "", "sheet 0" + on + "1 = 1, item 0" + on + "0 1 = 1, item 0" + on + "1 1 = INDEX, drop 0 = 1");
      row("of 0 to 24 items: 24", "", "sheet 0" + on + "24 = 24, item 0" + on + "23 1 = 1, item 0" + on + "24 1 = INDEX, drop 0 = 24");
      row("BAD: n above 24", "", "sheet 0" + on + "25 = BAD, sheet 0" + on + "max = BAD, drop 0 = NULL");
      row("SIZE: n below 0", "", "sheet 0" + on + "-1 = SIZE, sheet 0" + on + "min = SIZE, drop 0 = NULL");
      row("a new row, its items 0", MARKERS, "sheet 3" + on + "24, who 3" + on + "0 1 = 1, who 3" + on + "23 1 = 1, item 3" + on
          + "23 4, who 3" + on + "23 1 = 16, sheet 3" + on + "24 = 24, who 3" + on + "23 1 = 1");
    }
    StringBuilder all = new StringBuilder("sheet 1 2 24");
    for (int i = 0; i < 24; i++) all.append(", item 1 2 ").append(i).append(" 3 = 3");
    all.append(", sheet 1 2 24 = 24");
    for (int i = 0; i < 24; i++) all.append(", who 1 2 ").append(i).append(" 1 = 1");
    row("a new row, all its items 0", MARKERS, all.toString());
    row("SHEETS 0 .. 3", "", "sheet 0 0 1 = 1, sheet 1 0 2 = 2, sheet 2 0 3 = 3, sheet 3 0 4 = 4, sheet 4 0 1 = BAD, sheet -1 0 1 = BAD, "
        + "sheet max 0 1 = BAD, sheet min 0 1 = BAD, drop 0 = 1, drop 1 = 2, drop 2 = 3, drop 3 = 4");
    row("a LANE", "", "sheet 0 4 1 = BAD, sheet 0 -1 1 = BAD, sheet 0 max 1 = BAD, sheet 0 min 1 = BAD, drop 0 = NULL");
    row("BAD ahead of SIZE", "", "sheet 4 0 -1 = BAD, sheet -1 0 -1 = BAD, sheet 0 4 -1 = BAD, sheet 0 -1 -1 = BAD");
    row("in place of the one before", "", "sheet 0 0 3, sheet 0 3 5 = 5, item 0 0 0 1 = CAST, item 0 3 4 1 = 1, item 0 3 5 1 = INDEX, "
        + "sheet 0 3 2 = 2, item 0 3 2 1 = INDEX, sheet 0 1 0 = 0, item 0 1 0 1 = INDEX, item 0 3 0 1 = CAST");
    row("refused changes nothing", MARKERS, "sheet 0 2 4, item 0 2 3 5, sheet 0 1 25 = BAD, sheet 0 1 -1 = SIZE, sheet 0 4 1 = BAD, "
        + "who 0 2 3 1 = 32, drop 0 = 4");
    row("without a TOWN, too", "", "sheet 0 2 4 = 4, item 0 2 3 5 = 5, copy 0 0 0 1 3 = 3, drop 0 = 4");
  }

  private static void drop() {
    row("nothing (at first)", "", "drop 0 = NULL, drop 3 = NULL");
    row("holds nothing", "", "sheet 1 0 24, drop 1 = 24, drop 1 = NULL, item 1 0 0 1 = NULL, copy 1 0 1 0 0 = NULL, who 1 0 0 1 = NULL");
    row("how many items it had: none", "", "sheet 1 0 0, drop 1 = 0, drop 1 = NULL");
    row("that one alone", "", "sheet 1 0 2, sheet 2 0 3, drop 1 = 2, drop 2 = 3");
    row("a new row then, its items 0", MARKERS, "sheet 1 0 2, item 1 0 1 3 = 3, drop 1 = 2, sheet 1 0 2, who 1 0 1 1 = 1");
    row("BAD", "", "drop -1 = BAD, drop 4 = BAD, drop max = BAD, drop min = BAD");
  }

  private static void itemOfLanes() {
    String[] names = {"0 bytes", "1 shorts", "2 ints"};
    for (int lane = 0; lane < 3; lane++) {
      long most = (1L << (8 << lane) - 1) - 1;
      long[] given = {0, 1, -1, most, most + 1, -most - 1, -most - 2, 2 * most + 1, 2 * most + 2, Long.MAX_VALUE, Long.MIN_VALUE};
      long[] then = {0, 1, -1, most, -most - 1, -most - 1, most, -1, 0, -1, 0};
      for (int k = 0; k < given.length; k++) {
        row(names[lane], "", "sheet 2 " + lane + " 24, item 2 " + lane + " 23 " + given[k] + " = " + then[k]);
      }
    }
    row("3 longs", "", "sheet 2 3 2, item 2 3 1 " + Long.MAX_VALUE + " = " + Long.MAX_VALUE + ", item 2 3 1 " + Long.MIN_VALUE + " = "
        + Long.MIN_VALUE + ", item 2 3 0 2147483648 = 2147483648, item 2 3 0 -2147483649 = -2147483649, item 2 3 0 0 = 0");
    row("its lowest bits stay", MARKERS, "sheet 0 0 1, item 0 0 0 259 = 3, who 0 0 0 1 = 8");
    row("all bits of a long stay", MARKERS, "sheet 0 3 1, item 0 3 0 4294967299 = 4294967299, who 0 3 0 1 = 0");
    row("that item alone", MARKERS, "sheet 0 0 3, sheet 1 0 3, item 0 0 1 4, who 0 0 0 1 = 1, who 0 0 1 1 = 16, who 0 0 2 1 = 1, "
        + "who 1 0 1 1 = 1");
  }

  private static void itemRefused() {
    String made = "sheet 0 2 3, ";
    row("BAD", "", made + "item 4 2 0 1 = BAD, item -1 2 0 1 = BAD, item max 2 0 1 = BAD, item min 2 0 1 = BAD, item 0 4 0 1 = BAD, "
        + "item 0 -1 0 1 = BAD, item 0 max 0 1 = BAD, item 0 min 0 1 = BAD");
    row("NULL", "", made + "item 1 2 0 1 = NULL, item 3 0 0 1 = NULL");
    row("CAST", "", made + "item 0 0 0 1 = CAST, item 0 1 0 1 = CAST, item 0 3 0 1 = CAST");
    row("INDEX", "", made + "item 0 2 2 1 = 1, item 0 2 3 1 = INDEX, item 0 2 -1 1 = INDEX, item 0 2 max 1 = INDEX, item 0 2 min 1 = INDEX");
    row("BAD ahead of NULL, CAST, INDEX", "", made + "item 1 4 9 1 = BAD, item 0 4 0 1 = BAD, item 0 -1 9 1 = BAD, item 4 0 9 1 = BAD");
    row("NULL ahead of INDEX", "", made + "item 1 2 -1 1 = NULL, item 1 2 24 1 = NULL");
    row("CAST ahead of INDEX", "", made + "item 0 1 -1 1 = CAST, item 0 3 3 1 = CAST");
    row("refused changes nothing", MARKERS, made + "item 0 2 2 5, item 0 2 3 1 = INDEX, item 0 1 2 1 = CAST, who 0 2 2 1 = 32");
  }

  /** Six items, 0 to 5, and behind the calls which they are, by the bits of who would make them. */
  private static void copies(String sentence, String calls, int... bits) {
    StringBuilder script = new StringBuilder("sheet 0 2 6, sheet 1 2 6, item 0 2 1 1, item 0 2 2 2, item 0 2 3 3, item 0 2 4 4, "
        + "item 0 2 5 5, item 1 2 0 9, item 1 2 1 9, item 1 2 2 9, item 1 2 3 9, item 1 2 4 9, item 1 2 5 9, " + calls);
    for (int k = 0; k < bits.length; k++) {
      script.append(", who ").append(k / 6).append(" 2 ").append(k % 6).append(" 1 = ").append(bits[k]);
    }
    row(sentence, MARKERS, script.toString());
  }

  private static void copy() {
    copies("n items", "copy 0 1 1 2 3 = 3", 1, 2, 4, 8, 16, 32, 0, 0, 2, 4, 8, 0);
    copies("none", "copy 0 1 1 2 0 = 0", 1, 2, 4, 8, 16, 32, 0, 0, 0, 0, 0, 0);
    copies("none, behind the last", "copy 0 6 1 6 0 = 0, copy 0 0 1 6 0 = 0, copy 0 6 0 0 0 = 0", 1, 2, 4, 8, 16, 32, 0, 0, 0, 0, 0, 0);
    copies("one", "copy 0 5 1 0 1 = 1", 1, 2, 4, 8, 16, 32, 32, 0, 0, 0, 0, 0);
    copies("all", "copy 0 0 1 0 6 = 6", 1, 2, 4, 8, 16, 32, 1, 2, 4, 8, 16, 32);
    copies("or the same, on itself", "copy 0 0 0 0 6 = 6", 1, 2, 4, 8, 16, 32);
    copies("as if all were taken ahead: onwards", "copy 0 0 0 1 5 = 5", 1, 1, 2, 4, 8, 16);
    copies("as if all were taken ahead: onwards by two", "copy 0 1 0 3 3 = 3", 1, 2, 4, 2, 4, 8);
    copies("as if all were taken ahead: back", "copy 0 1 0 0 5 = 5", 2, 4, 8, 16, 32, 32);
    copies("as if all were taken ahead: back by two", "copy 0 3 0 1 3 = 3", 1, 8, 16, 32, 16, 32);
    for (int lane = 0; lane < 4; lane++) {
      row("of each LANE", MARKERS, "sheet 2 " + lane + " 24, sheet 3 " + lane + " 24, item 2 " + lane + " 23 3, copy 2 0 3 0 24 = 24, who 3 "
          + lane + " 23 1 = 8");
    }
    row("of empty rows", "", "sheet 0 0 0, sheet 1 0 0, copy 0 0 1 0 0 = 0, copy 0 0 1 0 1 = INDEX, copy 0 1 1 0 0 = INDEX, "
        + "copy 0 0 1 1 0 = INDEX");
  }

  private static void copyRefused() {
    String made = "sheet 0 2 6, sheet 1 2 4, sheet 2 1 4, ";
    row("BAD", "", made + "copy -1 0 1 0 1 = BAD, copy 4 0 1 0 1 = BAD, copy 0 0 -1 0 1 = BAD, copy 0 0 4 0 1 = BAD, copy max 0 1 0 1 = BAD, "
        + "copy min 0 1 0 1 = BAD, copy 0 0 max 0 1 = BAD, copy 0 0 min 0 1 = BAD");
    row("NULL (either)", "", made + "copy 3 0 0 0 1 = NULL, copy 0 0 3 0 1 = NULL, copy 3 0 3 0 0 = NULL");
    row("CAST: of unlike LANES", "", made + "copy 0 0 2 0 1 = CAST, copy 2 0 0 0 1 = CAST, copy 0 0 2 0 0 = CAST");
    row("INDEX: n below 0, too", "", made + "copy 0 1 1 1 -1 = INDEX, copy 0 0 1 0 min = INDEX, copy 0 0 0 0 -1 = INDEX");
    row("INDEX: i", "", made + "copy 0 -1 1 0 1 = INDEX, copy 0 5 1 0 1 = 1, copy 0 6 1 0 1 = INDEX, copy 0 3 1 0 3 = 3, "
        + "copy 0 4 1 0 3 = INDEX, copy 0 max 1 0 1 = INDEX, copy 0 min 1 0 1 = INDEX");
    row("INDEX: j", "", made + "copy 0 0 1 -1 1 = INDEX, copy 0 0 1 3 1 = 1, copy 0 0 1 4 1 = INDEX, copy 0 0 1 1 3 = 3, "
        + "copy 0 0 1 2 3 = INDEX, copy 0 0 1 max 1 = INDEX, copy 0 0 1 min 1 = INDEX");
    row("INDEX: n", "", made + "copy 0 0 1 0 4 = 4, copy 0 0 1 0 5 = INDEX, copy 1 0 0 0 4 = 4, copy 1 0 0 0 5 = INDEX, copy 0 0 1 0 max = INDEX, "
        + "copy 0 1 1 1 max = INDEX, copy 0 max 1 max max = INDEX");
    row("INDEX: with n 0, too, where i, j is below 0", "", made + "copy 0 -1 1 0 0 = INDEX, copy 0 0 1 -1 0 = INDEX, copy 0 min 1 0 0 = INDEX, "
        + "copy 0 0 1 min 0 = INDEX");
    row("INDEX: with n 0, too, or above how many there are", "", made + "copy 0 6 1 4 0 = 0, copy 0 7 1 4 0 = INDEX, copy 0 6 1 5 0 = INDEX, "
        + "copy 0 max 1 0 0 = INDEX, copy 0 0 1 max 0 = INDEX");
    row("BAD ahead of all others", "", made + "copy 3 0 4 0 1 = BAD, copy 4 0 3 0 1 = BAD, copy -1 -1 2 0 -1 = BAD, copy 0 9 4 9 9 = BAD");
    row("NULL ahead of INDEX", "", made + "copy 3 -1 0 0 1 = NULL, copy 0 -1 3 0 1 = NULL, copy 3 0 0 9 -1 = NULL");
    row("CAST ahead of INDEX", "", made + "copy 0 -1 2 0 1 = CAST, copy 0 0 2 9 1 = CAST, copy 2 0 1 0 -1 = CAST");
    copies("refused changes nothing", "copy 0 1 1 0 6 = INDEX, copy 0 0 1 1 6 = INDEX, copy 0 0 3 0 1 = NULL", 1, 2, 4, 8, 16, 32, 0, 0, 0, 0, 0, 0);
  }

  private static void film() {
    row("the first n CELLS (1 .. 8): 1", LINE, "sheet 0 0 8, film 0 1 0 0 0 = 1, due 0 0 0 0 1 = 1, due 0 0 0 0 2 = NONE");
    row("the first n CELLS (1 .. 8): all that he enters", LINE, "sheet 0 0 8, film 0 5 0 0 0 = 5, due 0 0 0 0 5 = 5, film 0 6 0 0 0 = NOT");
    row("the first n CELLS (1 .. 8): the most that there can be", LINE.replace('5', '7'), "sheet 0 0 8, film 0 7 0 0 1 = 7, "
        + "due 0 0 0 1 7 = 7, film 0 8 0 0 0 = NOT");
    row("an item each", LINE, "sheet 0 0 4, item 0 0 0 1, item 0 0 3 1, film 0 2 0 0 1 = 2, due 0 0 0 0 1 = 1, due 0 0 0 1 2 = 2, "
        + "due 0 0 0 3 1 = 1");
    row("from i on: the last place", LINE, "sheet 0 0 8, film 0 5 0 0 3 = 5, due 0 0 0 3 5 = 5, film 0 5 0 0 4 = INDEX, film 0 1 0 0 7 = 1, "
        + "due 0 0 0 7 1 = 1, film 0 1 0 0 8 = INDEX");
    for (int lane = 0; lane < 4; lane++) {
      row("a row of a LANE", LINE, "sheet 3 " + lane + " 24, film 0 5 3 " + lane + " 19 = 5, due 0 3 " + lane + " 19 5 = 5");
    }
    row("that one enters: a CHILD", LINE.replace('p', 'c'), "sheet 0 0 8, film 0 2 0 0 0 = 2, due 0 0 0 0 2 = 4, film 0 3 0 0 0 = NOT");
    row("that one enters: by what he OWES now", LINE, "sheet 0 0 8, deed 0 0 = 8, film 0 7 0 0 0 = 7, undo, film 0 6 0 0 0 = NOT");
    row("that one enters: he OWES nothing", LINE.replace('5', '0'), "sheet 0 0 8, film 0 1 0 0 0 = NOT");
    row("WALKING ALONE", "lcf;....;p10w9;p00w9;", "sheet 0 0 8, film 1 1 0 0 0 = NOT, film 0 2 0 0 0 = 2, due 0 0 0 0 2 = 2");
    row("nothing else changes", "lco;.+.;b00w9;", "sheet 0 0 8, film 0 2 0 0 0 = 2, due 0 0 0 0 2 = 4, cell 1 = 4, person 0 1 = 0, "
        + "person 0 2 = 3, person 0 3 = 9, person 0 4 = 0, count 3 = 0, count 6 = 0");
  }

  private static void filmRefused() {
    String made = "sheet 0 2 6, sheet 2 2 8, sheet 3 2 24, ";
    row("BAD: one", LINE, made + "film -1 1 0 2 0 = BAD, film 1 1 0 2 0 = BAD, film max 1 0 2 0 = BAD, film min 1 0 2 0 = BAD");
    row("BAD: n", LINE, made + "film 0 0 3 2 0 = BAD, film 0 9 3 2 0 = BAD, film 0 -1 3 2 0 = BAD, film 0 max 3 2 0 = BAD, film 0 min 3 2 0 = BAD");
    row("BAD: no such SHEET", LINE, made + "film 0 1 -1 2 0 = BAD, film 0 1 4 2 0 = BAD, film 0 1 max 2 0 = BAD, film 0 1 min 2 0 = BAD");
    row("BAD: no such LANE", LINE, made + "film 0 1 0 -1 0 = BAD, film 0 1 0 4 0 = BAD, film 0 1 0 max 0 = BAD, film 0 1 0 min 0 = BAD");
    row("NULL", LINE, made + "film 0 1 1 2 0 = NULL");
    row("CAST", LINE, made + "film 0 1 0 0 0 = CAST, film 0 1 0 1 0 = CAST, film 0 1 0 3 0 = CAST");
    row("INDEX", LINE, made + "film 0 1 0 2 -1 = INDEX, film 0 1 0 2 6 = INDEX, film 0 1 0 2 5 = 1, film 0 5 0 2 2 = INDEX, film 0 5 0 2 1 = 5, "
        + "film 0 1 0 2 max = INDEX, film 0 5 0 2 max = INDEX, film 0 1 0 2 min = INDEX");
    row("NOT: he enters fewer", LINE, made + "film 0 6 0 2 0 = NOT, film 0 8 2 2 0 = NOT, film 0 5 0 2 0 = 5");
    row("BAD ahead of all others", LINE, made + "film 1 1 1 2 0 = BAD, film 0 9 1 2 0 = BAD, film 0 0 0 1 0 = BAD, film 0 9 0 2 9 = BAD, "
        + "film 0 1 1 4 0 = BAD, film 1 8 2 2 0 = BAD");
    row("NULL ahead of INDEX, NOT", LINE, made + "film 0 1 1 2 -1 = NULL, film 0 8 1 2 0 = NULL");
    row("CAST ahead of INDEX, NOT", LINE, made + "film 0 1 0 0 -1 = CAST, film 0 8 2 0 0 = CAST, film 0 1 0 3 6 = CAST");
    row("INDEX ahead of NOT", LINE, made + "film 0 8 0 2 0 = INDEX, film 0 6 0 2 1 = INDEX, film 0 6 0 2 -1 = INDEX");
    row("refused changes nothing", LINE, made + "film 0 5 0 2 0 = 5, film 0 6 0 2 0 = NOT, film 0 5 0 2 2 = INDEX, film 0 5 0 1 0 = CAST, "
        + "due 0 0 2 0 5 = 5");
    row("refused changes nothing: no item of it", LINE, made + "item 0 2 0 9, item 0 2 5 9, film 0 6 0 2 0 = NOT, due 0 0 2 0 1 = NONE, "
        + "film 0 5 0 2 2 = INDEX, film 0 6 0 2 0 = NOT, due 0 0 2 0 1 = NONE, due 0 0 2 2 1 = NONE");
    row("without a TOWN", "", made + "film 0 1 0 2 0 = BAD, film 0 1 1 2 0 = BAD");
  }

  /** What one who stands on CELL 0 and WALKS east would have to OWE by these items. */
  private static void makes(String sentence, String ground, String due, long... items) {
    StringBuilder script = new StringBuilder("sheet 0 3 8");
    for (int k = 0; k < items.length; k++) script.append(", item 0 3 ").append(k).append(' ').append(items[k]);
    String set = due.equals("NONE") ? "0" : "1";
    row(sentence, ground, script + ", due 0 0 3 0 " + items.length + " = " + due + ", who 0 3 0 " + items.length + " = " + set);
  }

  private static void marks() {
    makes("CELLS that he entered", LINE, "1", 1);
    makes("CELLS that he entered", LINE, "2", 1, 2);
    makes("CELLS that he entered: the most", LINE, "7", 1, 2, 3, 4, 5, 6, 7);
    makes("CELLS that he entered: no more", LINE, "NONE", 1, 2, 3, 4, 5, 6, 7, 8);
    makes("CELLS that he entered: not his own", LINE, "NONE", 0);
    makes("CELLS that he entered: not his own", LINE, "NONE", 0, 1);
    makes("one behind the other", LINE, "NONE", 2, 1);
    makes("one behind the other", LINE, "NONE", 2);
    makes("one behind the other", LINE, "NONE", 1, 3);
    makes("one behind the other", LINE, "NONE", 1, 1);
    makes("none else", "lcf;..#;p00w5;", "NONE", 1, 2);
    makes("none else", "lcf;..;p00w5;", "1", 1);
    makes("an item is all of it", LINE, "NONE", 1 + (1L << 32));
    makes("an item is all of it", LINE, "NONE", 257);
    makes("an item is all of it", LINE, "NONE", -1);
    makes("the least that he would have to OWE", "lcf;.+~^.;p00w0;", "3", 1);
    makes("the least that he would have to OWE", "lcf;.+~^.;p00w0;", "5", 1, 2);
    makes("the least that he would have to OWE", "lcf;.+~^.;p00w0;", "7", 1, 2, 3);
    makes("the least that he would have to OWE", "lcf;.+~^.;p00w0;", "8", 1, 2, 3, 4);
    makes("the least that he would have to OWE: a CHILD", "lcf;....;c00w0;", "2", 1);
    makes("the least that he would have to OWE: the dearest", "lcf;.+++++++;c00w0;", "42", 1, 2, 3, 4, 5, 6, 7);
    makes("an ELDER none of WATER", "lcf;.~;e00w9;", "NONE", 1);
    makes("another one stands there", "lcf;...;p00w9;p20n0;", "NONE", 1, 2);
    makes("OWING something: also who OWES nothing", "lcf;...;p00w0;", "2", 1, 2);
  }

  private static void who() {
    String around = "lcf;.../.../...;p10n0;p01w0;p21e0;p12s0;";
    row("a set: all who would make them", around, "sheet 0 0 2, item 0 0 1 9, who 0 0 1 1 = 15");
    row("a set: all who would make them", around, "sheet 0 0 2, item 0 0 1 9, look 2 3, who 0 0 1 1 = 11, look 0 1, who 0 0 1 1 = 10, "
        + "look 3 1, who 0 0 1 1 = 2, look 1 1, who 0 0 1 1 = 0");
    row("a set: the last of six", MARKERS, "sheet 0 0 2, item 0 0 1 5, who 0 0 1 1 = 32, who 0 0 0 1 = 1");
    row("all others standing as they do", "lcf;....;p10w9;p00w9;", "sheet 0 0 2, item 0 0 0 1, who 0 0 0 1 = 0, noon, who 0 0 0 1 = 0, "
        + "item 0 0 0 3, who 0 0 0 1 = 0");
    row("nobody without a TOWN", "", "sheet 0 0 8, who 0 0 0 1 = 0, who 0 0 0 8 = 0, item 0 0 0 1, who 0 0 0 1 = 0");
    row("nothing changes", "lco;.+.;p00w9;", "sheet 0 0 8, item 0 0 0 1, item 0 0 1 2, who 0 0 0 2 = 1, who 0 0 0 2 = 1, due 0 0 0 0 2 = 4, "
        + "cell 1 = 4, person 0 3 = 9, person 0 1 = 0, count 6 = 0");
    row("from i on, n items: to the last", LINE, "sheet 0 0 8, film 0 5 0 0 3, who 0 0 3 5 = 1, who 0 0 3 4 = 1, who 0 0 2 5 = 0, who 0 0 4 4 = 0, "
        + "who 0 0 4 5 = INDEX");
  }

  private static void due() {
    row("of one", MARKERS, "sheet 0 0 2, item 0 0 1 5, due 5 0 0 1 1 = 1, due 4 0 0 1 1 = NONE, due 0 0 0 0 1 = 1, due 6 0 0 0 1 = BAD");
    row("not what he OWES now", "lcf;....;p00w99;", "sheet 0 0 2, item 0 0 0 1, due 0 0 0 0 1 = 1");
    row("where he LOOKS now", "lcf;../..;p00w9;", "sheet 0 0 2, item 0 0 0 8, due 0 0 0 0 1 = NONE, look 0 0, due 0 0 0 0 1 = 1");
    row("from i on, n items: to the last", LINE, "sheet 0 0 8, film 0 5 0 0 3, due 0 0 0 3 5 = 5, due 0 0 0 3 4 = 4, due 0 0 0 2 5 = NONE, "
        + "due 0 0 0 4 5 = INDEX");
  }

  private static void sorts() {
    String set = "sheet 0 1 8, item 0 1 0 1, item 0 1 1 2, item 0 1 2 3, ";
    row("KINDS (1 to 5)", "lcf;..;p00w4;", set + "sorts 0 0 1 0 1 = 54");
    row("KINDS (1 to 5)", "lcf;........;p00w2;", set + "sorts 0 0 1 0 1 = 4, sorts 0 0 1 0 2 = 50, sorts 0 0 1 0 3 = 0");
    row("KINDS (1 to 5): DRUNK", "lcf;.../...;p00s3;", set + "sorts 0 0 1 0 2 = 8, look 0 3, sorts 0 0 1 0 2 = 50");
    row("KINDS (1 to 5): no ELDER, no BLIND", "lcf;.~..;p00w2;", set + "sorts 0 0 1 0 1 = 2");
    row("OWING what he does", "lcf;........;p00w3;", set + "sorts 0 0 1 0 1 = 4, sorts 0 0 1 0 2 = 0, sorts 0 0 1 0 3 = 50, deed 0 0 = 6, "
        + "sorts 0 0 1 0 3 = 4");
    row("OWING what he does: nothing: none", "lcf;..;p00w0;", set + "sorts 0 0 1 0 1 = 0");
    row("OWING what he does: 1", "lcf;..;c00w1;", set + "sorts 0 0 1 0 1 = 50");
    row("also his own", "lcf;..;b00w2;", set + "sorts 0 0 1 0 1 = 54, person 0 0 = 5, person 0 2 = 3");
    row("by COURT", "ltf;.../.../...;b20e1;", "sheet 0 1 8, item 0 1 0 10, item 0 1 1 1, sorts 0 0 1 0 1 = 50, sorts 0 0 1 1 1 = 8");
    row("from i on, n items: to the last", LINE, "sheet 0 0 8, film 0 5 0 0 3, sorts 0 0 0 3 5 = 50, sorts 0 0 0 3 2 = 4, sorts 0 0 0 2 5 = 0, "
        + "sorts 0 0 0 4 5 = INDEX");
    row("of one", "lcf;..../....;p00w2;p01w1;", "sheet 0 1 8, item 0 1 0 9, sorts 1 0 1 0 1 = 50, sorts 0 0 1 0 1 = 0");
  }

  private static void marksRefused() {
    String made = "sheet 0 2 6, sheet 3 2 24, ";
    for (String call : new String[] {"who", "due 0", "sorts 0"}) {
      for (String bad : new String[] {"-1", "4", "max", "min"}) {
        row("BAD: no such SHEET", LINE, made + call + " " + bad + " 2 0 1 = BAD");
        row("BAD: no such LANE", LINE, made + call + " 0 " + bad + " 0 1 = BAD");
      }
      for (String bad : new String[] {"0", "9", "-1", "max", "min"}) row("BAD: n (1 .. 8)", LINE, made + call + " 3 2 0 " + bad + " = BAD");
      row("n (1 .. 8)", LINE, made + call + " 3 2 0 1, " + call + " 3 2 0 8, " + call + " 3 2 16 8, " + call + " 3 2 17 8 = INDEX");
      row("NULL", LINE, made + call + " 1 2 0 1 = NULL, " + call + " 2 0 0 8 = NULL");
      row("CAST", LINE, made + call + " 0 0 0 1 = CAST, " + call + " 0 1 0 1 = CAST, " + call + " 0 3 0 1 = CAST");
      row("INDEX", LINE, made + call + " 0 2 -1 1 = INDEX, " + call + " 0 2 6 1 = INDEX, " + call + " 0 2 0 7 = INDEX, " + call + " 0 2 5 2 = INDEX, "
          + call + " 0 2 max 1 = INDEX, " + call + " 0 2 max 8 = INDEX, " + call + " 0 2 min 8 = INDEX");
      row("BAD ahead of all others", LINE, made + call + " 1 4 0 1 = BAD, " + call + " 1 2 0 9 = BAD, " + call + " 0 1 0 0 = BAD, " + call
          + " 0 2 9 9 = BAD, " + call + " 4 2 -1 1 = BAD");
      row("NULL ahead of INDEX", LINE, made + call + " 1 2 -1 1 = NULL, " + call + " 1 1 24 8 = NULL");
      row("CAST ahead of INDEX", LINE, made + call + " 0 1 -1 1 = CAST, " + call + " 0 3 6 1 = CAST, " + call + " 0 1 0 8 = CAST");
      row("of no items", LINE, "sheet 0 2 0, " + call + " 0 2 0 1 = INDEX");
    }
    for (String call : new String[] {"due", "sorts"}) {
      for (String one : new String[] {"-1", "1", "max", "min"}) {
        row("BAD: one", LINE, made + call + " " + one + " 0 2 0 1 = BAD, " + call + " " + one + " 1 2 0 1 = BAD, " + call + " " + one
            + " 0 1 0 1 = BAD, " + call + " " + one + " 0 2 9 1 = BAD");
      }
      row("BAD without a TOWN", "", made + call + " 0 0 2 0 1 = BAD, " + call + " 0 1 2 0 1 = BAD, " + call + " 0 0 1 0 1 = BAD");
    }
    row("INDEX ahead of NONE", LINE, made + "due 0 0 2 6 1 = INDEX, due 0 0 2 5 1 = NONE");
    row("who without a TOWN", "", made + "who 0 2 0 1 = 0, who 0 2 6 1 = INDEX, who 0 1 0 1 = CAST, who 1 2 0 1 = NULL, who 0 2 0 9 = BAD");
  }

  private static void count() {
    String town = "lto;....../....../......;p00n7;p10n9;c22n1;";
    row("0 people", town, "count 0 = 3");
    row("1 columns", town, "count 1 = 6");
    row("2 rows", town, "count 2 = 3");
    row("3 the NOON", town, "count 3 = 0, noon, count 3 = 1, noon, count 3 = 2, undo, count 3 = 1");
    row("4 all that is OWED", town, "count 4 = 17, deed 0 0, count 4 = 20, noon = 4, count 4 = 15");
    row("5 CELLS entered at NOONS in all", town, "count 5 = 0, noon = 4, count 5 = 4, deed 2 1 = 5, noon = 0, count 5 = 4, look 0 2, undo, "
        + "undo, undo, undo, count 5 = 0");
    row("6 how many ACTS can be undone", town, "count 6 = 0, noon, count 6 = 1, look 0 3, count 6 = 2, undo, count 6 = 1");
    row("7 bytes of THE TAPE", town, "count 7 = 0, feed 0, count 7 = 1, feed 0 *139, count 7 = 140, town, count 7 = 0");
    row("8 1 COURT", town, "count 8 = 1");
    row("8 0 CAUGHT", "lco;.;p00n0;", "count 8 = 0");
    row("9 1 OVER", town, "count 9 = 1");
    row("9 0 FORGIVEN", "ltf;.;p00n0;", "count 9 = 0");
    row("but 7: 0 without a TOWN", "", "put lto, count 0 = 0, count 1 = 0, count 2 = 0, count 3 = 0, count 4 = 0, count 5 = 0, count 6 = 0, "
        + "count 7 = 3, count 8 = 0, count 9 = 0");
    row("BAD", town, "count -1 = BAD, count 10 = BAD, count max = BAD, count min = BAD");
    row("BAD without a TOWN", "", "count -1 = BAD, count 10 = BAD, count max = BAD, count min = BAD");
  }
}
