/** The boundary cases of "Terms", of its part 1, and of promises 1 to 7: each sentence by rows of its own. */
public final class ToldEdgesTest {
  private static final Check CHECK = new Check();
  private static final String ROW8 = "........";
  private static final String SQUARE = ROW8 + ("/" + ROW8).repeat(7);
  private static final String MOST = "lco;" + SQUARE + ";p00n99;c70e99;d07s99;e77w99;b33n99;p44s99;";

  public static void main(String[] args) {
    terms();
    newObject();
    tape();
    lawAndRows();
    cellsOfTown();
    people();
    owes();
    faultsAtPeople();
    anyByteAtAnyPlace();
    cutAtAnyPlace();
    blanks();
    anotherTown();
    faultKeepsAllElse();
    kinds();
    person();
    cellAndOn();
    CHECK.end();
  }

  private static void row(String sentence, String town, String calls) {
    Edges.row(CHECK, sentence, town, calls);
  }

  private static void terms() {
    row("at most 512 calls", "lcf;.;p00n0;", "noon *497 = 0, count 3 = 497, undo = 23");
    row("numbers go from 0 on", "lcf;../..;p11n5;c00e1;", "person 0 1 = 9, person 1 1 = 0, person 2 1 = BAD, "
        + "person -1 1 = BAD, cell 0 = 0, cell -1 = BAD");
    row("cut towards 0", "lcf;" + ROW8 + ";c00w0;", "steps 0 1 = 0, steps 0 2 = 1, steps 0 3 = 1, steps 0 4 = 2, "
        + "steps 0 13 = 6, steps 0 14 = 7");
    row("in lowest terms", "lcf;..;p00w1;", "odds 1 5 0 = 1, odds 1 5 1 = 2, odds 1 4 0 = 3, odds 1 4 1 = 5, odds 1 3 0 = 7, "
        + "odds 1 3 1 = 10, odds 1 0 0 = 1, odds 1 0 1 = 1");
    row("none is 0 by 1", "lcf;..;p00w1;", "odds 1 10 0 = 0, odds 1 10 1 = 1, odds 0 3 0 = 0, odds 0 3 1 = 1");
    row("sets are bits", "lcf;" + ROW8 + ";p20n0;p30n0;p40n0;p50n0;p60n0;p00w3;", "barred = 32, sides 5 0 = 15, sides 5 1 = 8");
    row("sets are bits", "lcf;......./.......;p01s2;p11s2;p21s2;p31s2;p41s2;p51s2;", "barred = 0, look 0 3 = 2, "
        + "barred = 1, look 3 3 = 2, barred = 9, look 2 3 = 2, barred = 13, look 4 3 = 2, barred = 29, look 1 3 = 2, barred = 31");
  }

  private static void newObject() {
    for (int what = 0; what < 10; what++) row("no TOWN at first", "", "count " + what + " = 0");
    row("no TOWN at first", "", "person 0 0 = BAD, cell 0 = BAD, on 0 = BAD, as 0 0 = BAD, noon = NOT, deed 0 0 = BAD, "
        + "look 0 0 = BAD, build 0 0 = BAD, build 0 1 = BAD, undo = NONE, image 0 = NOT, image 1 = NOT, restore 0 = NOT, "
        + "restore 1 = NOT");
    row("no TOWN at first", "", "ends 0 0 = BAD, steps 0 0 = BAD, later 0 0 = BAD, barred = NOT, judge 0 0 = BAD, "
        + "sides 0 0 = BAD, crime 0 0 0 = BAD, order -1 = NOT, order 0 = NOT, guard 0 0 = BAD, meet 0 1 0 = BAD, law 1 0 = NOT, "
        + "odds 0 0 0 = BAD, drawn 0 1 0 = NOT");
    row("no TOWN at first", "", "sheet 0 0 1 = 1, film 0 1 0 0 0 = BAD, who 0 0 0 1 = 0, due 0 0 0 0 1 = BAD, "
        + "sorts 0 0 0 0 1 = BAD");
    row("SHEETS are nothing at first", "", "drop 0 = NULL, drop 1 = NULL, drop 2 = NULL, drop 3 = NULL");
    row("THE TAPE is empty at first", "", "town = fault 0, count 7 = 0");
  }

  private static void tape() {
    row("at most 140 bytes", "", "feed 46 *139 = 139, feed 46 = 140, feed 46 = FULL, count 7 = 140, feed 46 = FULL, count 7 = 140");
    row("BAD ahead of FULL", "", "feed 46 *140 = 140, feed 256 = BAD, feed -1 = BAD, feed 255 = FULL, feed 0 = FULL");
    row("a byte is 0 .. 255", "", "feed 0 = 1, feed 255 = 2, feed -1 = BAD, feed 256 = BAD, feed max = BAD, feed min = BAD, "
        + "count 7 = 2");
    row("empty then", "lcf;.;p00n0;", "count 7 = 0, feed 46 = 1, town = fault 0, count 7 = 0, feed 46 = 1");
    row("a full tape is empty then", "", "feed 46 *140 = 140, town = fault 0, count 7 = 0, feed 46 = 1");
    row("the last byte of a full tape is one", "", "put " + MOST.replace("p44s99;", "p44s9;") + ", feed 46 *23 = 140, town = fault 117");
    row("bytes come behind the tape", "", "put lcf;.;p0, count 0 = 0, put 0n1;, count 7 = 12, town = 1, person 0 3 = 1");
  }

  private static void lawAndRows() {
    row("c CAUGHT, f FORGIVEN", "lcf;.;p00n0;", "count 8 = 0, count 9 = 0");
    row("t COURT, f FORGIVEN", "ltf;.;p00n0;", "count 8 = 1, count 9 = 0");
    row("c CAUGHT, o OVER", "lco;.;p00n0;", "count 8 = 0, count 9 = 1");
    row("t COURT, o OVER", "lto;.;p00n0;", "count 8 = 1, count 9 = 1");
    row("1 row", "lcf;..;p00n0;", "count 2 = 1, count 1 = 2");
    row("8 rows", "lcf;./././././././.;p07n0;", "count 2 = 8, count 1 = 1, person 0 1 = 56");
    row("no 9 rows", "", "read lcf;./././././././././.;p00n0; = fault 19");
    row("1 letter", "lcf;./.;p00n0;", "count 1 = 1, count 2 = 2");
    row("8 letters", "lcf;........;p70n0;", "count 1 = 8, count 2 = 1, person 0 1 = 7");
    row("no 9 letters", "", "read lcf;.........;p00n0; = fault 12");
    row("no 9 letters", "", "read lcf;......../.........;p00n0; = fault 21");
    row("not no letters", "", "read lcf;;p00n0; = fault 4");
    row("not no letters", "", "read lcf;/.;p00n0; = fault 4");
    row("not no letters", "", "read lcf;./;p00n0; = fault 6");
    row("not no letters", "", "read lcf;.//.;p00n0; = fault 6");
    row("a letter more than the first row has", "", "read lcf;./..;p00n0; = fault 7");
    row("a letter more than the first row has", "", "read lcf;.../.../....;p00n0; = fault 15");
    row("what ends a row too early", "", "read lcf;.../..;p00n0; = fault 10");
    row("what ends a row too early", "", "read lcf;.../../...;p00n0; = fault 10");
    row("what ends a row too early", "", "read lcf;../.x;p00n0; = fault 8");
    row("what ends a row too early: the end", "", "read lcf;../. = fault 8");
  }

  private static void cellsOfTown() {
    row(". # ~ ^ +", "lcf;.#~^+;p00n0;", "cell 0 = 0, cell 1 = 1, cell 2 = 2, cell 3 = 3, cell 4 = 4");
    row("8 times ROW and COLUMN", "lcf;...../..+../.....;p32n0;", "cell 10 = 4, person 0 1 = 19, on 19 = 0, on 18 = NONE");
    row("ROW from the north, COLUMN from the west", "lcf;.~/^+;p00n0;", "cell 0 = 0, cell 1 = 2, cell 8 = 3, cell 9 = 4");
    row("the last CELL", "lcf;" + SQUARE + ";p77n0;", "cell 63 = 0, on 63 = 0, cell 64 = BAD");
    String[] grounds = {"#", "~", "^", "+"};
    for (int k = 0; k < 4; k++) {
      String town = "lcf;" + SQUARE.substring(0, 70) + grounds[k] + ";p00n0;";
      row("the last CELL", town, "cell 63 = " + (k + 1) + ", cell 62 = 0, cell 0 = 0, read lcf;" + SQUARE + ";p00n0;, cell 63 = 0");
    }
  }

  private static void people() {
    row("no 0 people", "", "read lcf;.; = fault 6");
    row("1 of the people", "", "read lcf;.;p00n0; = 1, count 0 = 1");
    row("6 people", "", "read lcf;.......;p00n0;p10n0;p20n0;p30n0;p40n0;p50n0; = 6, count 0 = 6");
    row("no 7 people", "", "read lcf;.......;p00n0;p10n0;p20n0;p30n0;p40n0;p50n0;p60n0; = fault 48");
    row("the most that a TOWN can be", "", "read " + MOST + " = 6, count 4 = 594, count 1 = 8, count 2 = 8, person 5 1 = 36");
    row("nothing behind 6 people", "", "read " + MOST + ". = fault 118");
    row("0, 1, .. as they come: the last of six", "lcf;......;c00e1;d10s2;e20w3;b30n4;p40e5;b50w6;", "person 5 0 = 5, person 5 1 = 5, "
        + "person 5 2 = 3, person 5 3 = 6, person 5 4 = 0, person 5 8 = 0, on 5 = 5, as 5 5 = 5, person 4 0 = 1, person 6 0 = BAD");
    row("0, 1, .. as they come", "lcf;...;b20n3;c00e4;", "person 0 0 = 5, person 0 1 = 2, person 1 0 = 2, person 1 1 = 0");
    row("p, c, d, e, b", "lcf;.....;p00n0;c10n0;d20n0;e30n0;b40n0;", "person 0 0 = 1, person 1 0 = 2, person 2 0 = 3, "
        + "person 3 0 = 4, person 4 0 = 5");
    row("n, e, s, w", "lcf;....;p00n0;p10e0;p20s0;p30w0;", "person 0 2 = 0, person 1 2 = 1, person 2 2 = 2, person 3 2 = 3");
    row("COLUMN one figure", "", "read lcf;" + ROW8 + ";p70n0; = 1, read lcf;" + ROW8 + ";p80n0; = fault 14, "
        + "read lcf;" + ROW8 + ";p070n0; = fault 15, read lcf;" + ROW8 + ";p90n0; = fault 14");
    row("ROW one figure", "", "read lcf;./.;p01n0; = 1, read lcf;./.;p02n0; = fault 10, read lcf;./.;p011n0; = fault 11");
    row("a figure beyond the TOWN", "", "read lcf;../..;p20n0; = fault 11, read lcf;../..;p02n0; = fault 12");
    row("a figure beyond the TOWN: of its own columns", "", "read lcf;../../..;p20n0; = fault 14, read lcf;../../..;p12n0; = 1");
    row("a figure beyond the TOWN: of its own rows", "", "read lcf;.../...;p02n0; = fault 14, read lcf;.../...;p21n0; = 1");
    row("one can stand on all but a WALL", "lcf;.~^+;p00n0;c10n0;d20n0;e30n0;", "on 0 = 0, on 1 = 1, on 2 = 2, on 3 = 3, "
        + "cell 1 = 2, cell 2 = 3, cell 3 = 4");
  }

  private static void owes() {
    row("OWES 0", "lcf;.;p00n0;", "person 0 3 = 0");
    row("OWES 00", "lcf;.;p00n00;", "person 0 3 = 0");
    row("OWES 9", "lcf;.;p00n9;", "person 0 3 = 9");
    row("OWES 09", "lcf;.;p00n09;", "person 0 3 = 9");
    row("OWES 10", "lcf;.;p00n10;", "person 0 3 = 10");
    row("OWES 99", "lcf;.;p00n99;", "person 0 3 = 99");
    row("OWES no figures", "", "read lcf;.;p00n; = fault 10");
    row("OWES three figures", "", "read lcf;.;p00n100; = fault 10, read lcf;.;p00n000; = fault 10, read lcf;.;p00n100 = fault 10, "
        + "read lcf;.;p00n1000; = fault 10, read lcf;.;p00n010;x = fault 10");
    row("OWES three figures of the last of six", "", "read lcf;......;p00n0;p10n0;p20n0;p30n0;p40n0;p50n100; = fault 45");
    row("behind one figure", "", "read lcf;.;p00n1x = fault 11, read lcf;.;p00n1 = fault 11");
    row("behind two figures", "", "read lcf;.;p00n10x = fault 12, read lcf;.;p00n10 = fault 12, read lcf;.;p00n10/ = fault 12, "
        + "read lcf;.;p00n10: = fault 12");
  }

  private static void faultsAtPeople() {
    row("its CELL is a WALL", "", "read lcf;.#;p10n0; = fault 8, read lcf;.#;p10 = fault 8, read lcf;.#;p1 = fault 9, "
        + "read lcf;.#;p1x = fault 9, read lcf;.#;p11 = fault 9, read lcf;.#;p10x = fault 8");
    row("one stands there already", "", "read lcf;..;p00n0;c00e1; = fault 14, read lcf;..;p00n0;c00 = fault 14, "
        + "read lcf;..;p00n0;c0 = fault 15, read lcf;..;p00n0;c00x = fault 14, read lcf;..;p00n0;c10e1; = 2");
    row("the first one stands there already", "", "read lcf;......;p00n0;p10n0;p20n0;p30n0;p40n0;p00n0; = fault 42");
    row("the fifth one stands there already", "", "read lcf;......;p00n0;p10n0;p20n0;p30n0;p40n0;p40n0; = fault 42");
    row("those of the TOWN before do not stand there", "lcf;..;p00n0;p10n0;", "read lcf;..;p10n0;p00n0; = 2");
    row("the first byte that cannot stand there", "", "read xx = fault 0, read lxx = fault 1, read lcf;.;x;x = fault 6, "
        + "read lcf;.#;p10x100; = fault 8, read lcf;.;p00n100x = fault 10, read lcf;..;p00x;c00e0; = fault 10");
    row("the end", "", "town = fault 0, read l = fault 1, read lcf; = fault 4, read lcf;. = fault 5, read lcf;.; = fault 6, "
        + "read lcf;.;p = fault 7, read lcf;.;p0 = fault 8, read lcf;.;p00 = fault 9, read lcf;.;p00n = fault 10, "
        + "read lcf;.;p00n1 = fault 11, read lcf;.;p00n12 = fault 12");
  }

  /** Of a town of each sort of byte, at each place: which bytes can stand there. */
  private static void anyByteAtAnyPlace() {
    String town = "lcf;.#/~.;p00n12;c01e0;";
    String[] stand = {"l", "ct", "fo", ";", ".#~^+", ".#~^+/;", ".#~^+/;", ".#~^+", ".#~^+", "/;", "pcdeb", "01", "01", "nesw",
      "0123456789", "0123456789;", ";", "pcdeb", "01", "01", "nesw", "0123456789", "0123456789;"};
    for (int place = 0; place < town.length(); place++) {
      for (int letter = 0; letter < 256; letter++) {
        if (stand[place].indexOf(letter) >= 0) continue;
        boolean thirdFigure = place == 16 && letter >= '0' && letter <= '9';
        int fault = thirdFigure ? 14 : place;
        faultBy(town.substring(0, place) + (char) letter, fault);
        faultBy(town.substring(0, place) + (char) letter + town.substring(place + 1), fault);
      }
      for (char letter : stand[place].toCharArray()) {
        String text = town.substring(0, place) + letter;
        boolean whole = place > 9 && letter == ';';
        // the second one may not stand where the first one does
        boolean taken = place == 19 && letter == '0';
        if (!whole) faultBy(text, taken ? 18 : place + 1);
      }
    }
  }

  private static void faultBy(String text, int fault) {
    CHECK.due("a FAULT at each place: " + text, Check.read(new NoonPaces(), text), -100 - fault);
  }

  private static void cutAtAnyPlace() {
    for (int k = 0; k <= MOST.length(); k++) {
      boolean whole = k > 76 && (k - 76) % 7 == 0;
      int due = whole ? (k - 76) / 7 : -100 - k;
      CHECK.due("the end: " + k + " bytes", Check.read(new NoonPaces(), MOST.substring(0, k)), due);
    }
  }

  private static void blanks() {
    String town = "lcf;.#/~.;p00n12;c01e0;";
    for (int k = 0; k <= town.length(); k++) {
      String text = town.substring(0, k) + ' ' + town.substring(k);
      CHECK.due("no blanks: " + text, Check.read(new NoonPaces(), text), -100 - k);
    }
  }

  private static void anotherTown() {
    String before = "lto;..../....;p00n9;b10n9;";
    String lived = "deed 0 2 = 18, noon = 2, deed 1 0 = 11, read lcf;..;c10w4; = 1, ";
    row("NOON 0", before, lived + "count 3 = 0, noon = 0, count 3 = 1");
    row("no DEEDS done", before, lived + "person 0 5 = 0, person 0 6 = 0, person 0 7 = 0, person 0 8 = 0, deed 0 2 = 13");
    row("nobody walked", before, lived + "person 0 4 = 0, count 5 = 0");
    row("nothing can be undone", before, lived + "count 6 = 0, undo = NONE, person 0 1 = 1");
    row("in place of the one before", before, lived + "count 0 = 1, person 1 0 = BAD, count 1 = 2, count 2 = 1, count 8 = 0, "
        + "count 9 = 0, cell 2 = BAD, cell 8 = BAD, on 0 = NONE, on 1 = 0, person 0 0 = 2, person 0 2 = 3, person 0 3 = 4");
    row("all else stays", before, "noon = 2, image 1 = 1, noon = 0, image 0 = 2, sheet 2 1 3 = 3, item 2 1 1 8 = 8, "
        + "read lcf;../..;c11w0;p00n0; = 2, who 2 1 1 1 = 2, restore 1 = 1, count 0 = 2, person 0 1 = 8, count 2 = 2, "
        + "count 1 = 4, restore 0 = 2, drop 2 = 3");
  }

  private static void faultKeepsAllElse() {
    String before = "lto;..../.+..;p00n9;b10n9;";
    String lived = "noon = 2, deed 1 0 = 9, read lcf;#~;x = fault 7, ";
    row("all else stays by a FAULT", before, lived + "count 0 = 2, count 1 = 4, count 2 = 2, count 3 = 1, count 4 = 17, count 5 = 2, "
        + "count 6 = 2, count 7 = 0, count 8 = 1, count 9 = 1, cell 0 = 0, cell 1 = 0, person 0 1 = 8, person 1 1 = 9, "
        + "undo = 1, undo = 0, cell 9 = 4, person 1 1 = 1");
    row("all else stays by a FAULT at the people", before, "read lco;..;p00n1;c00e2; = fault 14, person 0 3 = 9, person 1 0 = 5, "
        + "person 0 1 = 0, count 1 = 4");
    row("no TOWN stays none", "", "read lco;..;p00n1;c00e2; = fault 14, count 0 = 0, count 1 = 0, count 9 = 0, cell 0 = BAD, "
        + "noon = NOT, person 0 0 = BAD");
  }

  private static void kinds() {
    String five = "lcf;.....;p00n0;c10n0;d20n0;e30n0;b40n0;";
    row("all are PERSON", five, "as 0 0 = 0, as 1 0 = 1, as 2 0 = 2, as 3 0 = 3, as 4 0 = 4");
    row("PLAIN (1)", five, "as 0 1 = 0, as 0 2 = CAST, as 0 3 = CAST, as 0 4 = CAST, as 0 5 = CAST");
    row("CHILD (2) is PLAIN", five, "as 1 1 = 1, as 1 2 = 1, as 1 3 = CAST, as 1 4 = CAST, as 1 5 = CAST");
    row("DRUNK (3) is PLAIN", five, "as 2 1 = 2, as 2 2 = CAST, as 2 3 = 2, as 2 4 = CAST, as 2 5 = CAST");
    row("ELDER (4) is a PERSON", five, "as 3 1 = CAST, as 3 2 = CAST, as 3 3 = CAST, as 3 4 = 3, as 3 5 = CAST");
    row("BLIND (5) is an ELDER", five, "as 4 1 = CAST, as 4 2 = CAST, as 4 3 = CAST, as 4 4 = 4, as 4 5 = 4");
    row("a KIND (0 .. 5)", five, "as 0 -1 = BAD, as 4 6 = BAD, as 0 max = BAD, as 0 min = BAD");
    row("one is there", five, "as -1 0 = BAD, as 5 0 = BAD, as max 0 = BAD, as min 0 = BAD");
    row("BAD ahead of CAST", five, "as 5 5 = BAD, as 0 6 = BAD");
  }

  private static void person() {
    String two = "lco;..../....;p01s9;b11n30;";
    row("0 the KIND", two, "person 0 0 = 1, person 1 0 = 5");
    row("1 the CELL", two, "person 0 1 = 8, person 1 1 = 9");
    row("2 where he LOOKS", two, "person 0 2 = 2, person 1 2 = 0");
    row("3 what he OWES", two, "person 0 3 = 9, person 1 3 = 30");
    row("4 CELLS entered at NOONS", two, "person 0 4 = 0, noon = 1, person 0 4 = 1, person 1 4 = 0, noon = 1, person 1 4 = 1, "
        + "noon = 0, person 1 4 = 1, noon = 3, person 1 4 = 4, person 0 4 = 1");
    for (int deed = 0; deed < 4; deed++) {
      for (int k = 0; k < 4; k++) {
        row("5 to 8 DEEDS 0 to 3", two, "deed 1 " + deed + ", deed 1 " + deed + ", person 1 " + (5 + k) + " = " + (k == deed ? 2 : 0)
            + ", person 0 " + (5 + k) + " = 0");
      }
    }
    row("what", two, "person 0 -1 = BAD, person 0 9 = BAD, person 1 max = BAD, person 1 min = BAD");
    row("one", two, "person -1 0 = BAD, person 2 0 = BAD, person max 8 = BAD, person min 0 = BAD, person 6 0 = BAD");
  }

  private static void cellAndOn() {
    String town = "lcf;..+/~..;p21n0;e00n0;";
    row("a CELL is inside", town, "cell 0 = 0, cell 2 = 4, cell 8 = 2, cell 10 = 0");
    row("a CELL is inside", town, "on 0 = 1, on 2 = NONE, on 8 = NONE, on 10 = 0");
    for (String beyond : new String[] {"-1", "-8", "3", "7", "11", "15", "16", "18", "24", "26", "32", "56",
      "58", "63", "64", "72", "max", "min"}) {
      row("BAD", town, "cell " + beyond + " = BAD, on " + beyond + " = BAD");
    }
  }
}
