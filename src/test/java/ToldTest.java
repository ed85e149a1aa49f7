/** Promises 1 to 7: what is told. */
public final class ToldTest {
  private static final Check CHECK = new Check();

  public static void main(String[] args) {
    newObject();
    feed();
    townsThatStand();
    faultsOfLawAndRows();
    faultsOfPeople();
    townInPlaceOfAnother();
    faultLeavesAllElse();
    person();
    cellAndOn();
    as();
    CHECK.end();
  }

  private static void newObject() {
    NoonPaces x = new NoonPaces();
    for (int what = 0; what <= 9; what++) CHECK.due("1 count " + what, x.count(what), 0);
    CHECK.due("1 person", x.person(0, 0), NoonPaces.BAD);
    CHECK.due("1 cell", x.cell(0), NoonPaces.BAD);
    CHECK.due("1 on", x.on(0), NoonPaces.BAD);
    CHECK.due("1 as", x.as(0, 0), NoonPaces.BAD);
    CHECK.due("1 noon", x.noon(), NoonPaces.NOT);
    CHECK.due("1 deed", x.deed(0, 0), NoonPaces.BAD);
    CHECK.due("1 look", x.look(0, 0), NoonPaces.BAD);
    CHECK.due("1 build", x.build(0, 1), NoonPaces.BAD);
    CHECK.due("1 undo", x.undo(), NoonPaces.NONE);
    CHECK.due("1 restore", x.restore(1), NoonPaces.NOT);
    for (int sheet = 0; sheet < 4; sheet++) CHECK.due("1 drop", x.drop(sheet), NoonPaces.NULL);
    CHECK.due("1 town", x.town(), -100);
  }

  private static void feed() {
    NoonPaces x = new NoonPaces();
    CHECK.due("2 below", x.feed(-1), NoonPaces.BAD);
    CHECK.due("2 above", x.feed(256), NoonPaces.BAD);
    CHECK.due("2 least", x.feed(0), 1);
    CHECK.due("2 greatest", x.feed(255), 2);
    for (int k = 3; k <= 140; k++) CHECK.due("2 byte " + k, x.feed('.'), k);
    CHECK.due("2 full", x.feed('.'), NoonPaces.FULL);
    CHECK.due("2 bad comes first", x.feed(256), NoonPaces.BAD);
    CHECK.due("2 count", x.count(7), 140);
    CHECK.due("2 fault", x.town(), -100);
    CHECK.due("2 empty then", x.count(7), 0);
    CHECK.due("2 again", x.feed('l'), 1);
  }

  private static void reads(String text, int want) {
    NoonPaces x = new NoonPaces();
    CHECK.due("3 " + text, Check.read(x, text), want);
    CHECK.due("3 tape behind " + text, x.count(7), 0);
    CHECK.due("3 people behind " + text, x.count(0), Math.max(0, want));
  }

  private static void townsThatStand() {
    reads("lcf;.;p00n0;", 1);
    reads("ltf;.;p00n0;", 1);
    reads("lco;.;p00n99;", 1);
    reads("lto;.;p00n00;", 1);
    reads("lcf;.#~^+...;p70n07;", 1);
    reads("lcf;./././././././.;p07s5;", 1);
    reads("lcf;...../.....;p00n1;c10e2;d20s3;e30w4;b40n5;p01e6;", 6);
    reads("lcf;~^+;p00n1;p10n1;p20n1;", 3);
    reads("lcf;......../......../......../......../......../......../......../........;"
        + "p00n99;p10n99;p20n99;p30n99;p40n99;p77n99;", 6);
  }

  private static void faultsOfLawAndRows() {
    reads("", -100);
    reads("x", -100);
    reads("l", -101);
    reads("lx", -101);
    reads("lc", -102);
    reads("lcc", -102);
    reads("lcf", -103);
    reads("lcf.", -103);
    reads("lcf;", -104);
    reads("lcf;;", -104);
    reads("lcf;/", -104);
    reads("lcf;x", -104);
    reads("lcf;.x", -105);
    reads("lcf; .;p00n1;", -104);
    reads("lcf;........", -112);
    reads("lcf;.........", -112);
    reads("lcf;../...", -109);
    reads("lcf;../.;", -108);
    reads("lcf;../.", -108);
    reads("lcf;../", -107);
    reads("lcf;..//", -107);
    reads("lcf;../;", -107);
    reads("lcf;./././././././.", -119);
    reads("lcf;./././././././././", -119);
    reads("lcf;./././././././.x", -119);
    reads("LCF;.;p00n0;", -100);
  }

  private static void faultsOfPeople() {
    reads("lcf;.;", -106);
    reads("lcf;.;x", -106);
    reads("lcf;.;p", -107);
    reads("lcf;.;px", -107);
    reads("lcf;.;p1", -107);
    reads("lcf;.;p0", -108);
    reads("lcf;.;p01", -108);
    reads("lcf;.;p0x", -108);
    reads("lcf;.;p00", -109);
    reads("lcf;.;p00x", -109);
    reads("lcf;.;p00n", -110);
    reads("lcf;.;p00n;", -110);
    reads("lcf;.;p00nx", -110);
    reads("lcf;.;p00n1", -111);
    reads("lcf;.;p00n1x", -111);
    reads("lcf;.;p00n12", -112);
    reads("lcf;.;p00n12x", -112);
    reads("lcf;.;p00n123", -110);
    reads("lcf;.;p00n000;", -110);
    reads("lcf;.;p00n1;;", -112);
    reads("lcf;.#;p10n1;", -108);
    reads("lcf;.#;p10x", -108);
    reads("lcf;.#;p1", -109);
    reads("lcf;..;p00n1;c00n1;", -114);
    reads("lcf;..;p00n1;c00", -114);
    reads("lcf;.......;p00n1;p10n1;p20n1;p30n1;p40n1;p50n1;p60n1;", -148);
    reads("lcf;.......;p00n1;p10n1;p20n1;p30n1;p40n1;p50n1;;", -148);
    reads("lcf;......../........;p80n0;", -123);
    reads("lcf;......../........;p02n0;", -124);
  }

  private static void townInPlaceOfAnother() {
    NoonPaces x = Check.in("lto;...../.....;p00n9;b10n9;");
    x.deed(0, 2);
    x.noon();
    x.sheet(1, 2, 7);
    x.image(0);
    CHECK.due("3 another", Check.read(x, "lcf;.../.../...;c11w4;"), 1);
    int[] counts = {1, 3, 3, 0, 4, 0, 0, 0, 0, 0};
    for (int what = 0; what <= 9; what++) CHECK.due("3 another: count " + what, x.count(what), counts[what]);
    int[] told = {2, 9, 3, 4, 0, 0, 0, 0, 0};
    for (int what = 0; what <= 8; what++) CHECK.due("3 another: person " + what, x.person(0, what), told[what]);
    CHECK.due("3 another: nothing can be undone", x.undo(), NoonPaces.NONE);
    CHECK.due("3 another: the image stays", x.restore(0), 1);
    CHECK.due("3 another: the sheet stays", x.drop(1), 7);
  }

  private static void faultLeavesAllElse() {
    NoonPaces x = Check.in("lcf;....;p30e9;");
    x.look(0, 0);
    CHECK.due("3 fault", Check.read(x, "lto;#;p00"), -107);
    CHECK.due("3 fault: tape", x.count(7), 0);
    CHECK.due("3 no byte of the tape before", Check.read(x, "lto;.;p00n1"), -111);
    CHECK.due("3 no byte of the tape before", Check.read(x, "lto;.;p00n"), -110);
    CHECK.due("3 fault: people", x.count(0), 1);
    CHECK.due("3 fault: columns", x.count(1), 4);
    CHECK.due("3 fault: court", x.count(8), 0);
    CHECK.due("3 fault: over", x.count(9), 0);
    CHECK.due("3 fault: ground", x.cell(0), 0);
    CHECK.due("3 fault: undo", x.undo(), 0);
    CHECK.due("3 fault: side", x.person(0, 2), 1);
  }

  private static void person() {
    NoonPaces x = Check.in("lcf;...../.....;p00n1;c10e2;d20s3;e30w4;b41n15;");
    int[] cells = {0, 1, 2, 3, 12};
    int[] looks = {0, 1, 2, 3, 0};
    int[] owes = {1, 2, 3, 4, 15};
    for (int one = 0; one < 5; one++) {
      CHECK.due("4 kind", x.person(one, 0), one + 1);
      CHECK.due("4 cell", x.person(one, 1), cells[one]);
      CHECK.due("4 looks", x.person(one, 2), looks[one]);
      CHECK.due("4 owes", x.person(one, 3), owes[one]);
      for (int what = 4; what <= 8; what++) CHECK.due("4 nothing yet", x.person(one, what), 0);
    }
    for (int deed = 0; deed < 4; deed++) {
      for (int times = 0; times <= deed; times++) x.deed(3, deed);
    }
    for (int deed = 0; deed < 4; deed++) CHECK.due("4 deeds", x.person(3, 5 + deed), deed + 1);
    CHECK.due("4 deeds of another", x.person(2, 5), 0);
    x.noon();
    CHECK.due("4 entered", x.person(0, 4), 1);
    CHECK.due("4 no such one", x.person(5, 0), NoonPaces.BAD);
    CHECK.due("4 no such one", x.person(-1, 0), NoonPaces.BAD);
    CHECK.due("4 no such what", x.person(0, 9), NoonPaces.BAD);
    CHECK.due("4 no such what", x.person(0, -1), NoonPaces.BAD);
  }

  private static void cellAndOn() {
    NoonPaces x = Check.in("lcf;.#~/^+.;p00n1;c11n1;");
    int[] cells = {0, 1, 2, 8, 9, 10};
    int[] grounds = {0, 1, 2, 3, 4, 0};
    int[] people = {0, -4, -4, -4, 1, -4};
    for (int k = 0; k < 6; k++) {
      CHECK.due("5 cell " + cells[k], x.cell(cells[k]), grounds[k]);
      CHECK.due("6 on " + cells[k], x.on(cells[k]), people[k]);
    }
    int[] beyond = {-1, 3, 7, 11, 16, 63, 64, Integer.MAX_VALUE, Integer.MIN_VALUE};
    for (int cell : beyond) {
      CHECK.due("5 beyond " + cell, x.cell(cell), NoonPaces.BAD);
      CHECK.due("6 beyond " + cell, x.on(cell), NoonPaces.BAD);
    }
  }

  private static void as() {
    NoonPaces x = Check.in("lcf;.....;p00n1;c10n1;d20n1;e30n1;b40n1;");
    String[] under = {"110000", "111000", "110100", "100010", "100011"};
    for (int one = 0; one < 5; one++) {
      for (int kind = 0; kind < 6; kind++) {
        int want = under[one].charAt(kind) == '1' ? one : NoonPaces.CAST;
        CHECK.due("7 as " + one + " " + kind, x.as(one, kind), want);
      }
    }
    CHECK.due("7 no such kind", x.as(0, 6), NoonPaces.BAD);
    CHECK.due("7 no such kind", x.as(0, -1), NoonPaces.BAD);
    CHECK.due("7 no such one", x.as(5, 0), NoonPaces.BAD);
    CHECK.due("7 no such one", x.as(-1, 0), NoonPaces.BAD);
  }
}
