/** Promises 28 to 36: sheets, and what is counted. */
public final class SheetsTest {
  private static final Check CHECK = new Check();
  private static final int BAD = NoonPaces.BAD, NULL = NoonPaces.NULL, CAST = NoonPaces.CAST, INDEX = NoonPaces.INDEX;

  public static void main(String[] args) {
    constants();
    sheetAndDrop();
    item();
    copy();
    copyRefused();
    film();
    whoAndDue();
    sorts();
    marksRefused();
    count();
    CHECK.end();
  }

  private static void constants() {
    int[] told = {NoonPaces.BAD, NoonPaces.NOT, NoonPaces.FULL, NoonPaces.NONE, NULL, CAST, INDEX, NoonPaces.SIZE};
    int[] want = {-1, -2, -3, -4, -11, -12, -13, -14};
    for (int k = 0; k < 8; k++) CHECK.due("constant " + k, told[k], want[k]);
  }

  private static void sheetAndDrop() {
    NoonPaces x = new NoonPaces();
    CHECK.due("28 least", x.sheet(0, 0, 0), 0);
    CHECK.due("28 most", x.sheet(3, 3, 24), 24);
    CHECK.due("28 above", x.sheet(3, 3, 25), BAD);
    CHECK.due("28 below", x.sheet(3, 3, -1), NoonPaces.SIZE);
    CHECK.due("28 least of all", x.sheet(3, 3, Integer.MIN_VALUE), NoonPaces.SIZE);
    CHECK.due("28 no such sheet", x.sheet(4, 0, 1), BAD);
    CHECK.due("28 no such sheet", x.sheet(-1, 0, -1), BAD);
    CHECK.due("28 no such lane", x.sheet(0, 4, -1), BAD);
    CHECK.due("28 no such lane", x.sheet(0, -1, 1), BAD);
    x.item(3, 3, 23, 9);
    CHECK.due("28 refused changes nothing", x.copy(3, 23, 3, 0, 1), 1);
    CHECK.due("28 new", x.sheet(3, 3, 24), 24);
    NoonPaces y = Check.in("lcf;........;p00w9;");
    y.sheet(0, 0, 3);
    y.film(0, 3, 0, 0, 0);
    y.sheet(0, 0, 3);
    CHECK.due("28 its items are 0", y.who(0, 0, 0, 1), 0);
    CHECK.due("29 none", x.drop(1), NULL);
    CHECK.due("29 no such sheet", x.drop(4), BAD);
    CHECK.due("29 no such sheet", x.drop(-1), BAD);
    CHECK.due("29 all", x.drop(3), 24);
    CHECK.due("29 nothing then", x.drop(3), NULL);
    CHECK.due("29 an empty row is something", x.drop(0), 0);
    CHECK.due("29 nothing then", x.item(3, 3, 0, 1), NULL);
  }

  private static void item() {
    NoonPaces x = new NoonPaces();
    for (int lane = 0; lane < 4; lane++) x.sheet(lane, lane, 3);
    long v = 0x123456789ABCDEF0L;
    CHECK.due("30 byte", x.item(0, 0, 0, v), (byte) 0xF0);
    CHECK.due("30 short", x.item(1, 1, 1, v), (short) 0xDEF0);
    CHECK.due("30 int", x.item(2, 2, 2, v), 0x9ABCDEF0);
    CHECK.due("30 long", x.item(3, 3, 0, v), v);
    CHECK.due("30 byte", x.item(0, 0, 0, 127), 127);
    CHECK.due("30 byte", x.item(0, 0, 0, 128), -128);
    CHECK.due("30 short", x.item(1, 1, 0, 32768), -32768);
    CHECK.due("30 int", x.item(2, 2, 0, 1L << 31), Integer.MIN_VALUE);
    CHECK.due("30 long", x.item(3, 3, 0, Long.MIN_VALUE), Long.MIN_VALUE);
    CHECK.due("30 no such sheet", x.item(4, 0, 0, 1), BAD);
    CHECK.due("30 no such sheet", x.item(-1, 0, 0, 1), BAD);
    CHECK.due("30 no such lane", x.item(0, 4, 0, 1), BAD);
    CHECK.due("30 no such lane", x.item(0, -1, 0, 1), BAD);
    CHECK.due("30 another lane", x.item(0, 1, 0, 1), CAST);
    CHECK.due("30 another lane comes ahead of the index", x.item(0, 1, 3, 1), CAST);
    CHECK.due("30 index", x.item(0, 0, 3, 1), INDEX);
    CHECK.due("30 index", x.item(0, 0, -1, 1), INDEX);
    CHECK.due("30 index", x.item(0, 0, Integer.MAX_VALUE, 1), INDEX);
    CHECK.due("30 index", x.item(0, 0, Integer.MIN_VALUE, 1), INDEX);
    x.drop(0);
    CHECK.due("30 nothing", x.item(0, 1, 3, 1), NULL);
    CHECK.due("30 bad comes ahead of nothing", x.item(0, 4, 3, 1), BAD);
  }

  /** A sheet's items as they are, found by people who would make such a mark. */
  private static void holds(String name, NoonPaces x, int sheet, int... want) {
    for (int i = 0; i < want.length; i++) {
      int found = -1;
      for (int one = 0; one < 6; one++) {
        if (x.due(one, sheet, 2, i, 1) == 1) found = x.ends(one, 1);
      }
      CHECK.due(name + " item " + i, found, want[i]);
    }
  }

  /** Six people, each of whom enters a cell of his own by one pace: 8 to 13; -1 stands for any other item. */
  private static NoonPaces markers() {
    NoonPaces x = Check.in("lcf;....../......;p00n1;p10n1;p20n1;p30n1;p40n1;p50n1;");
    x.sheet(0, 2, 6);
    x.sheet(1, 2, 4);
    for (int k = 0; k < 6; k++) x.item(0, 2, k, 8 + k);
    return x;
  }

  private static void copy() {
    NoonPaces x = markers();
    holds("31 ahead", x, 0, 8, 9, 10, 11, 12, 13);
    CHECK.due("31 to another", x.copy(0, 1, 1, 2, 2), 2);
    holds("31 to another", x, 1, -1, -1, 9, 10);
    CHECK.due("31 on itself, onwards", x.copy(0, 0, 0, 1, 5), 5);
    holds("31 onwards", x, 0, 8, 8, 9, 10, 11, 12);
    CHECK.due("31 on itself, back", x.copy(0, 2, 0, 0, 4), 4);
    holds("31 back", x, 0, 9, 10, 11, 12, 11, 12);
    CHECK.due("31 none", x.copy(0, 6, 1, 4, 0), 0);
    CHECK.due("31 all", x.copy(1, 0, 0, 2, 4), 4);
    holds("31 all", x, 0, 9, 10, -1, -1, 9, 10);
  }

  private static void copyRefused() {
    NoonPaces x = markers();
    x.sheet(2, 1, 4);
    CHECK.due("31 no such sheet", x.copy(4, 0, 0, 0, 1), BAD);
    CHECK.due("31 no such sheet", x.copy(0, 0, -1, 0, 1), BAD);
    CHECK.due("31 bad comes ahead of nothing", x.copy(3, 0, 4, 0, 1), BAD);
    CHECK.due("31 nothing", x.copy(3, 0, 0, 0, 1), NULL);
    CHECK.due("31 nothing", x.copy(0, 0, 3, 0, 1), NULL);
    CHECK.due("31 unlike", x.copy(0, 0, 2, 0, 1), CAST);
    CHECK.due("31 unlike comes ahead of the index", x.copy(0, -1, 2, 0, 1), CAST);
    int[][] beyond = {{0, 0, -1}, {-1, 0, 1}, {0, -1, 1}, {6, 0, 1}, {0, 4, 1}, {3, 0, 4}, {0, 0, 5}, {-1, 0, 0},
      {0, -1, 0}, {7, 0, 0}, {0, 5, 0}, {Integer.MAX_VALUE, 0, Integer.MAX_VALUE}, {1, 1, Integer.MAX_VALUE},
      {0, 0, Integer.MIN_VALUE}, {Integer.MIN_VALUE, 0, 1}};
    for (int[] b : beyond) CHECK.due("31 index " + b[0] + " " + b[1] + " " + b[2], x.copy(0, b[0], 1, b[1], b[2]), INDEX);
    holds("31 refused changes nothing", x, 0, 8, 9, 10, 11, 12, 13);
    holds("31 refused changes nothing", x, 1, -1, -1, -1, -1);
  }

  private static void film() {
    NoonPaces x = Check.in("lcf;......../........;p00w6;c71e9;p01n0;");
    x.sheet(0, 2, 8);
    x.sheet(1, 0, 3);
    CHECK.due("32 film", x.film(0, 6, 0, 2, 2), 6);
    for (int k = 1; k <= 6; k++) CHECK.due("32 item " + k, x.due(0, 0, 2, 2, k), k);
    CHECK.due("32 he enters fewer", x.film(0, 7, 0, 2, 0), NoonPaces.NOT);
    CHECK.due("32 he enters fewer", x.film(0, 8, 0, 2, 0), NoonPaces.NOT);
    CHECK.due("32 he owes nothing", x.film(2, 1, 0, 2, 0), NoonPaces.NOT);
    CHECK.due("32 refused changes nothing", x.due(0, 0, 2, 2, 6), 6);
    CHECK.due("32 bytes", x.film(1, 3, 1, 0, 0), 3);
    CHECK.due("32 bytes", x.due(1, 1, 0, 0, 3), 6);
    CHECK.due("32 a child", x.film(1, 4, 0, 2, 0), 4);
    // the first one's third to sixth cells are there still
    x.item(0, 2, 2, 1);
    x.item(0, 2, 3, 2);
    CHECK.due("32 no more than n", x.due(0, 0, 2, 2, 6), 6);
    CHECK.due("32 a child", x.film(1, 5, 0, 2, 0), NoonPaces.NOT);
    CHECK.due("32 no such one", x.film(3, 1, 0, 2, 0), BAD);
    CHECK.due("32 no such one", x.film(-1, 1, 3, 2, 0), BAD);
    CHECK.due("32 n", x.film(0, 0, 0, 2, 0), BAD);
    CHECK.due("32 n", x.film(0, 9, 0, 2, 0), BAD);
    CHECK.due("32 no such sheet", x.film(0, 1, 4, 2, 0), BAD);
    CHECK.due("32 no such lane", x.film(0, 1, 3, 4, 0), BAD);
    CHECK.due("32 nothing", x.film(0, 1, 3, 2, 0), NULL);
    CHECK.due("32 another lane", x.film(0, 1, 0, 1, 9), CAST);
    CHECK.due("32 index", x.film(0, 6, 0, 2, 3), INDEX);
    CHECK.due("32 index", x.film(0, 1, 0, 2, -1), INDEX);
    CHECK.due("32 the index comes ahead of fewer", x.film(2, 1, 0, 2, 8), INDEX);
    CHECK.due("32 changes nothing", x.person(0, 1), 0);
  }

  private static void put(NoonPaces x, int sheet, int lane, long... items) {
    for (int k = 0; k < items.length; k++) x.item(sheet, lane, k, items[k]);
  }

  private static void whoAndDue() {
    NoonPaces x = Check.in("lcf;....../.~..../......;p00w0;c01w5;e21e9;b50n1;d02s2;");
    x.sheet(0, 3, 8);
    put(x, 0, 3, 1, 2, 3, 4, 5);
    CHECK.due("33 one", x.who(0, 3, 0, 4), 1);
    CHECK.due("34 four cells", x.due(0, 0, 3, 0, 4), 4);
    CHECK.due("34 three cells", x.due(0, 0, 3, 0, 3), 3);
    CHECK.due("34 he stops ahead of the blind one", x.due(0, 0, 3, 0, 5), NoonPaces.NONE);
    CHECK.due("34 not from the second on", x.due(0, 0, 3, 1, 2), NoonPaces.NONE);
    put(x, 0, 3, 9, 0);
    CHECK.due("33 a child through water", x.who(0, 3, 0, 1), 2);
    CHECK.due("34 a child through water", x.due(1, 0, 3, 0, 1), 4);
    CHECK.due("34 an elder not", x.due(2, 0, 3, 0, 1), NoonPaces.NONE);
    put(x, 0, 3, 17, 18, 19);
    CHECK.due("33 a drunk one", x.who(0, 3, 0, 3), 16);
    CHECK.due("34 a drunk one", x.due(4, 0, 3, 0, 3), 3);
    put(x, 0, 3, 13, 21);
    CHECK.due("33 a blind one", x.who(0, 3, 0, 2), 8);
    CHECK.due("34 a blind one", x.due(3, 0, 3, 0, 2), 2);
    put(x, 0, 3, 1L << 32 | 13, 21);
    CHECK.due("33 the whole item counts", x.who(0, 3, 0, 2), 0);
    put(x, 0, 3, -1, 21);
    CHECK.due("33 no cell", x.who(0, 3, 0, 2), 0);
    x = Check.in("lcf;.../.../.../...;p00n0;p02s0;p22e5;");
    x.sheet(0, 0, 2);
    put(x, 0, 0, 8);
    CHECK.due("33 two of them", x.who(0, 0, 0, 1), 3);
    CHECK.due("34 the one ahead of the other", x.due(0, 0, 0, 0, 1), 1);
  }

  private static void sorts() {
    // westwards street, southwards water
    NoonPaces x = Check.in("lcf;......./......./~~~~~~~/.......;p31e4;");
    x.sheet(0, 1, 8);
    put(x, 0, 1, 10, 9, 8);
    CHECK.due("35 plain, elder, blind", x.sorts(0, 0, 1, 0, 3), 1 << 1 | 1 << 4 | 1 << 5);
    CHECK.due("35 a child", x.sorts(0, 0, 1, 0, 2), 1 << 2);
    put(x, 0, 1, 3);
    CHECK.due("35 a drunk one", x.sorts(0, 0, 1, 0, 1), 1 << 3);
    x.look(0, 0);
    put(x, 0, 1, 19, 27);
    CHECK.due("35 through water", x.sorts(0, 0, 1, 0, 2), 1 << 1);
    CHECK.due("35 a child through water", x.sorts(0, 0, 1, 0, 1), 1 << 2);
    put(x, 0, 1, 10, 9, 8);
    CHECK.due("35 a drunk one who looks north", x.sorts(0, 0, 1, 0, 3), 1 << 3);
    x.noon();
    CHECK.due("35 he owes nothing", x.sorts(0, 0, 1, 0, 1), 0);
    x = Check.in("lcf;.;p00n4;");
    x.sheet(0, 0, 1);
    CHECK.due("35 none", x.sorts(0, 0, 0, 0, 1), 0);
  }

  private static void marksRefused() {
    NoonPaces x = Check.in("lcf;...;p00w2;");
    x.sheet(0, 1, 5);
    // sheet, lane, i, n, answer
    int[][] rows = {{4, 1, 0, 1, BAD}, {-1, 1, 0, 1, BAD}, {0, 4, 0, 1, BAD}, {0, -1, 0, 1, BAD}, {0, 1, 0, 0, BAD},
      {0, 1, 0, 9, BAD}, {1, 1, 0, 9, BAD}, {1, 1, 0, 1, NULL}, {1, 2, 9, 1, NULL}, {0, 2, 9, 1, CAST}, {0, 1, 5, 1, INDEX},
      {0, 1, -1, 1, INDEX}, {0, 1, 0, 6, INDEX}, {0, 1, Integer.MAX_VALUE, 8, INDEX}, {0, 1, Integer.MIN_VALUE, 8, INDEX}};
    for (int[] r : rows) {
      CHECK.due("33 refused", x.who(r[0], r[1], r[2], r[3]), r[4]);
      CHECK.due("34 refused", x.due(0, r[0], r[1], r[2], r[3]), r[4]);
      CHECK.due("35 refused", x.sorts(0, r[0], r[1], r[2], r[3]), r[4]);
      CHECK.due("34 no such one", x.due(1, r[0], r[1], r[2], r[3]), BAD);
      CHECK.due("35 no such one", x.sorts(-1, r[0], r[1], r[2], r[3]), BAD);
    }
    NoonPaces y = new NoonPaces();
    y.sheet(0, 0, 1);
    CHECK.due("33 without a town nobody", y.who(0, 0, 0, 1), 0);
    CHECK.due("34 without a town", y.due(0, 0, 0, 0, 1), BAD);
    CHECK.due("35 without a town", y.sorts(0, 0, 0, 0, 1), BAD);
  }

  private static void count() {
    NoonPaces x = Check.in("lto;....../....../......;p00n7;p10n9;c22n1;");
    x.feed('l');
    x.feed('c');
    int[] first = {3, 6, 3, 0, 17, 0, 0, 2, 1, 1};
    for (int what = 0; what < 10; what++) CHECK.due("36 count " + what, x.count(what), first[what]);
    x.deed(0, 0);
    x.noon();
    int[] then = {3, 6, 3, 1, 15, 4, 2, 2, 1, 1};
    for (int what = 0; what < 10; what++) CHECK.due("36 then count " + what, x.count(what), then[what]);
    CHECK.due("36 above", x.count(10), BAD);
    CHECK.due("36 below", x.count(-1), BAD);
    x = new NoonPaces();
    x.feed('l');
    for (int what = 0; what < 10; what++) CHECK.due("36 no town " + what, x.count(what), what == 7 ? 1 : 0);
    CHECK.due("36 no town", x.count(10), BAD);
    x = Check.in("lcf;.;p00n0;");
    CHECK.due("36 caught", x.count(8), 0);
    CHECK.due("36 forgiven", x.count(9), 0);
  }
}
