/** Promises 8 to 14: acts. */
public final class ActsTest {
  private static final Check CHECK = new Check();

  public static void main(String[] args) {
    costs();
    stops();
    directions();
    kindsAndRest();
    byNumbers();
    lastNoon();
    deed();
    look();
    build();
    undo();
    undoOfEachAct();
    images();
    CHECK.end();
  }

  /** One noon of a town with one person: cells entered, his cell, what he owes, where he looks. */
  private static NoonPaces walks(String text, int cells, int at, int owes, int looks) {
    NoonPaces x = Check.in(text);
    CHECK.due("8 " + text, x.noon(), cells);
    CHECK.due("8 at " + text, x.person(0, 1), at);
    CHECK.due("8 owes " + text, x.person(0, 3), owes);
    CHECK.due("8 looks " + text, x.person(0, 2), looks);
    CHECK.due("8 entered " + text, x.person(0, 4), cells);
    CHECK.due("8 noon " + text, x.count(3), 1);
    return x;
  }

  private static void costs() {
    NoonPaces x = walks("lcf;.~^+...;p00w9;", 5, 5, 0, 3);
    CHECK.due("8 the door is a street", x.cell(3), 0);
    CHECK.due("8 water stays", x.cell(1), 2);
    CHECK.due("8 a hill stays", x.cell(2), 3);
    walks("lco;.~^+...;p00w8;", 4, 4, 0, 3);
    walks("lco;.~^+...;p00w1;", 0, 0, 1, 3);
    x = walks("lco;.~^+...;p00w6;", 2, 2, 2, 3);
    CHECK.due("8 the door stays", x.cell(3), 4);
    CHECK.due("8 too few for the door", x.noon(), 0);
    CHECK.due("8 owes on", x.person(0, 3), 2);
    x.deed(0, 0);
    CHECK.due("8 enough for it", x.noon(), 3);
    CHECK.due("8 through it", x.person(0, 1), 5);
    walks("lcf;.~^+...;p00w0;", 0, 0, 0, 3);
    x = walks("lcf;.++.;p00w6;", 2, 2, 0, 3);
    CHECK.due("8 the first door", x.cell(1), 0);
    CHECK.due("8 the last door", x.cell(2), 0);
  }

  private static void stops() {
    walks("lco;..#.;p00w9;", 1, 1, 8, 3);
    walks("lco;..;p00w9;", 1, 1, 8, 3);
    walks("lco;....;p00w9;p30n0;", 2, 2, 7, 3);
    walks("lco;..~.;e00w9;", 1, 1, 8, 3);
    walks("lco;..^.;e00w9;", 1, 1, 8, 3);
    walks("lco;..^.;b00w9;", 1, 1, 8, 0);
    walks("lco;..~.;b00w9;", 1, 1, 8, 0);
    walks("lco;..+.;e00w9;", 3, 3, 4, 3);
    walks("lcf;..#.;p00w9;", 1, 1, 0, 3);
  }

  private static void directions() {
    int[] plain = {17, 8, 1, 10};
    int[] drunk = {8, 1, 10, 17};
    String sides = "nesw";
    for (int side = 0; side < 4; side++) {
      char letter = sides.charAt(side);
      walks("lcf;.../.../...;p11" + letter + "5;", 1, plain[side], 0, side);
      walks("lcf;.../.../...;d11" + letter + "5;", 1, drunk[side], 0, side);
      walks("lcf;.../.../...;e11" + letter + "5;", 1, plain[side], 0, side);
      walks("lcf;.../.../...;b11" + letter + "5;", 1, plain[side], 0, (side + 1) % 4);
      walks("ltf;.../.../...;p11" + letter + "5;", 1, 17, 0, side);
      walks("ltf;.../.../...;d11" + letter + "5;", 1, 8, 0, side);
      walks("ltf;.../.../...;b11" + letter + "5;", 1, 17, 0, (side + 1) % 4);
    }
  }

  private static void kindsAndRest() {
    walks("lco;........;c00w9;", 4, 4, 0, 3);
    walks("lco;........;c00w1;", 0, 0, 0, 3);
    walks("lco;..#;c00w9;", 1, 1, 3, 3);
    walks("lcf;..#;c00w9;", 1, 1, 0, 3);
    walks("lco;...;d00s9;", 2, 2, 7, 2);
    // who owes nothing does not walk, so a blind one looks on to the same side
    walks("lco;...;b00w0;", 0, 0, 0, 3);
    walks("lco;.;b00w7;", 0, 0, 7, 0);
  }

  private static void byNumbers() {
    NoonPaces x = Check.in("lcf;...;p10w5;p00w5;");
    CHECK.due("8 the first one makes room", x.noon(), 2);
    CHECK.due("8 first", x.person(0, 1), 2);
    CHECK.due("8 second", x.person(1, 1), 1);
    x = Check.in("lcf;...;p00w5;p10w5;");
    CHECK.due("8 the first one is in the way", x.noon(), 1);
    CHECK.due("8 first", x.person(0, 1), 0);
    CHECK.due("8 second", x.person(1, 1), 2);
    x = Check.in("lcf;.+./.../...;p00w3;p22s9;");
    CHECK.due("8 two", x.noon(), 3);
    CHECK.due("8 all entered", x.count(5), 3);
    x = Check.in("lco;....;p00w0;p10w5;p30e9;");
    x.noon();
    Check.read(x, "lco;..../....;p31e2;");
    CHECK.due("8 none of the town before", x.noon(), 2);
    CHECK.due("8 none of the town before", x.count(5), 2);
    CHECK.due("8 without a town", new NoonPaces().noon(), NoonPaces.NOT);
  }

  private static void lastNoon() {
    // beyond 512 calls, where nothing is promised: there is no other way to the last noon
    NoonPaces x = Check.in("lcf;.;p00n0;");
    for (int k = 0; k < 9999; k++) x.noon();
    CHECK.due("8 the last noon", x.count(3), 9999);
    CHECK.due("8 full", x.noon(), NoonPaces.FULL);
    CHECK.due("8 full changes nothing", x.count(3), 9999);
  }

  private static void deed() {
    NoonPaces x = Check.in("lcf;..;p00n0;p10n50;");
    CHECK.due("9 a lie", x.deed(0, 0), 3);
    CHECK.due("9 a blow", x.deed(0, 1), 8);
    CHECK.due("9 a theft", x.deed(0, 2), 17);
    CHECK.due("9 a murder", x.deed(0, 3), 47);
    CHECK.due("9 another lie", x.deed(0, 0), 51);
    CHECK.due("9 a third lie", x.deed(0, 0), 56);
    CHECK.due("9 another murder", x.deed(0, 3), 87);
    CHECK.due("9 another theft", x.deed(0, 2), 97);
    CHECK.due("9 at most", x.deed(0, 1), 99);
    CHECK.due("9 at most, but done", x.deed(0, 1), 99);
    CHECK.due("9 done", x.person(0, 6), 3);
    CHECK.due("9 another one's first", x.deed(1, 0), 53);
    CHECK.due("9 acts", x.count(6), 11);
    CHECK.due("9 no such deed", x.deed(0, 4), NoonPaces.BAD);
    CHECK.due("9 no such deed", x.deed(0, -1), NoonPaces.BAD);
    CHECK.due("9 no such one", x.deed(2, 0), NoonPaces.BAD);
    CHECK.due("9 no such one", x.deed(-1, 0), NoonPaces.BAD);
    CHECK.due("9 refused is no act", x.count(6), 11);
  }

  private static void look() {
    NoonPaces x = Check.in("lcf;..;p00n0;p10w50;");
    CHECK.due("10 elsewhere", x.look(0, 2), 0);
    CHECK.due("10 there already", x.look(0, 2), NoonPaces.NOT);
    CHECK.due("10 back", x.look(0, 0), 2);
    CHECK.due("10 another", x.look(1, 1), 3);
    CHECK.due("10 acts", x.count(6), 3);
    CHECK.due("10 no such side", x.look(0, 4), NoonPaces.BAD);
    CHECK.due("10 no such side", x.look(0, -1), NoonPaces.BAD);
    CHECK.due("10 no such one", x.look(2, 0), NoonPaces.BAD);
    CHECK.due("10 refused is no act", x.count(6), 3);
  }

  private static void build() {
    NoonPaces x = Check.in("lcf;.#~/^+.;p00n0;p11n0;");
    CHECK.due("11 one stands there", x.build(0, 1), NoonPaces.NOT);
    CHECK.due("11 one stands on a door", x.build(9, 1), NoonPaces.NOT);
    CHECK.due("11 clear below one", x.build(9, 0), 4);
    CHECK.due("11 a street already", x.build(9, 0), NoonPaces.NOT);
    CHECK.due("11 a wall already", x.build(1, 1), NoonPaces.NOT);
    CHECK.due("11 clear a wall", x.build(1, 0), 1);
    CHECK.due("11 clear water", x.build(2, 0), 2);
    CHECK.due("11 build on a hill", x.build(8, 1), 3);
    CHECK.due("11 build on a street", x.build(10, 1), 0);
    int[] grounds = {0, 0, 0, 1, 0, 1};
    int[] cells = {0, 1, 2, 8, 9, 10};
    for (int k = 0; k < 6; k++) CHECK.due("11 cell " + cells[k], x.cell(cells[k]), grounds[k]);
    CHECK.due("11 acts", x.count(6), 5);
    CHECK.due("11 beyond", x.build(3, 1), NoonPaces.BAD);
    CHECK.due("11 beyond", x.build(16, 1), NoonPaces.BAD);
    CHECK.due("11 beyond", x.build(-1, 1), NoonPaces.BAD);
    CHECK.due("11 up", x.build(1, 2), NoonPaces.BAD);
    CHECK.due("11 up", x.build(1, -1), NoonPaces.BAD);
    CHECK.due("11 refused is no act", x.count(6), 5);
  }

  private static void undo() {
    NoonPaces x = Check.in("lcf;..;p00n0;");
    for (int k = 1; k <= 24; k++) {
      x.deed(0, 0);
      CHECK.due("12 can be undone", x.count(6), k);
    }
    x.noon();
    x.noon();
    CHECK.due("12 the latest 24", x.count(6), 24);
    for (int k = 23; k >= 0; k--) CHECK.due("12 more", x.undo(), k);
    CHECK.due("12 none", x.undo(), NoonPaces.NONE);
    CHECK.due("12 back to the third deed", x.person(0, 5), 2);
    CHECK.due("12 owes", x.person(0, 3), 7);
    CHECK.due("12 noon", x.count(3), 0);
    x.deed(0, 3);
    CHECK.due("12 acts go on", x.undo(), 0);
    CHECK.due("12 owes as ahead", x.person(0, 3), 7);
  }

  private static void undoOfEachAct() {
    NoonPaces x = Check.in("lco;.+../..~#;b00w9;c11e4;");
    String start = stateOf(x);
    x.noon();
    same("12 a noon", x, start);
    x.deed(1, 3);
    same("12 a deed", x, start);
    x.look(1, 3);
    same("12 a look", x, start);
    x.build(11, 0);
    same("12 cleared", x, start);
    x.build(1, 1);
    same("12 built up", x, start);
    x.noon();
    String first = stateOf(x);
    x.look(0, 2);
    String second = stateOf(x);
    x.noon();
    same("12 the latest first", x, second);
    same("12 then the one ahead", x, first);
    same("12 then the first", x, start);
  }

  private static void same(String name, NoonPaces x, String before) {
    x.undo();
    CHECK.due(name + " is undone: " + before, stateOf(x).equals(before) ? 1 : 0, 1);
  }

  private static String stateOf(NoonPaces x) {
    StringBuilder text = new StringBuilder();
    // two rows at most here, so that an object is used for 512 calls at most
    for (int cell = 0; cell < 12; cell++) text.append(x.cell(cell)).append(' ');
    for (int one = 0; one < x.count(0); one++) {
      for (int what = 0; what < 9; what++) text.append(x.person(one, what)).append(' ');
    }
    for (int what = 0; what < 10; what++) text.append(what == 6 ? 0 : x.count(what)).append(' ');
    return text.toString();
  }

  private static void images() {
    NoonPaces x = new NoonPaces();
    CHECK.due("13 no such image", x.image(2), NoonPaces.BAD);
    CHECK.due("13 no such image", x.image(-1), NoonPaces.BAD);
    CHECK.due("13 no town", x.image(1), NoonPaces.NOT);
    CHECK.due("14 no such image", x.restore(2), NoonPaces.BAD);
    CHECK.due("14 no such image", x.restore(-1), NoonPaces.BAD);
    CHECK.due("14 none was kept", x.restore(0), NoonPaces.NOT);
    Check.read(x, "lco;.+../..~#;b00w9;c11e4;");
    x.noon();
    CHECK.due("13 kept", x.image(0), 1);
    String first = stateOf(x);
    CHECK.due("13 no act", x.count(6), 1);
    x.deed(0, 1);
    x.build(11, 0);
    x.noon();
    CHECK.due("13 another", x.image(1), 2);
    String second = stateOf(x);
    x.noon();
    CHECK.due("14 first", x.restore(0), 1);
    CHECK.due("14 as it was", stateOf(x).equals(first) ? 1 : 0, 1);
    CHECK.due("14 nothing can be undone", x.count(6), 0);
    CHECK.due("14 nothing can be undone", x.undo(), NoonPaces.NONE);
    x.deed(0, 1);
    CHECK.due("14 the second", x.restore(1), 2);
    CHECK.due("14 as it was", stateOf(x).equals(second) ? 1 : 0, 1);
    x.noon();
    x.image(1);
    CHECK.due("13 in place of the one before", x.restore(1), 3);
    Check.read(x, "ltf;.;p00n1;");
    CHECK.due("14 a town of before", x.restore(0), 1);
    CHECK.due("14 as it was", stateOf(x).equals(first) ? 1 : 0, 1);
    x.feed('l');
    x.restore(0);
    CHECK.due("14 the tape stays", x.count(7), 1);
  }
}
