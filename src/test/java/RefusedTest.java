import java.util.ArrayList;
import java.util.List;

/** What is refused, told or foretold changes nothing: all that an object tells then is as without the call. */
public final class RefusedTest {
  private static final Check CHECK = new Check();
  /** People at cells 2 and 9; cell 8 a WALL by then; sheet 3 nothing; three acts, two images, half a town on the tape. */
  private static final String LIVED = "read lco;.+./..#;p00w9;b11n4;, image 0 = 0, deed 0 1 = 14, noon = 2, build 8 1 = 0, image 1 = 1, "
      + "sheet 0 0 3, sheet 1 2 4, sheet 2 2 3, item 0 0 1 5, item 1 2 0 3, item 1 2 3 4, item 2 2 1 2, put lcf;..;p00n1";
  private static final String NO_TOWN = "sheet 0 0 3, sheet 1 2 4, item 0 0 1 5, item 1 2 3 4, put lcf;..;p00n1";
  private static final String MARKERS = "lcf;....../......;p01s1;p11s1;p21s1;p31s1;p41s1;p51s1;";

  public static void main(String[] args) {
    toldRefused();
    actsRefused();
    foretoldRefused();
    sheetsRefused();
    withoutTown();
    fullTape();
    fault();
    noneLeft();
    toldAndForetold();
    CHECK.end();
  }

  private static void keeps(String lived, String... calls) {
    String without = readOut(Edges.after(CHECK, lived));
    for (String call : calls) {
      Edges x = Edges.after(CHECK, lived);
      x.script("refused: ", call);
      CHECK.due(call + " changes nothing", readOut(x).equals(without) ? 1 : 0, 1);
    }
  }

  /** All that an object tells of itself; it is spent then. */
  private static String readOut(Edges x) {
    List<Long> told = new ArrayList<>();
    tellTown(x, told);
    int[] lanes = new int[4];
    for (int sheet = 0; sheet < 4; sheet++) {
      for (int lane = 0; lane < 4; lane++) {
        long answer = x.call("item", sheet, lane, -1, 0);
        if (answer == NoonPaces.INDEX) lanes[sheet] = lane;
        told.add(answer);
      }
    }
    for (int acts = 0; acts < 5 && told.add(x.call("undo")); acts++) tellTown(x, told);
    for (int k = 0; k < 2; k++) {
      told.add(x.call("restore", k));
      tellTown(x, told);
    }
    told.add(x.call("feed", ';'));
    told.add(x.call("town"));
    tellTown(x, told);
    tellSheets(x, lanes, told);
    return told.toString();
  }

  private static void tellTown(Edges x, List<Long> told) {
    for (int what = 0; what < 10; what++) told.add(x.call("count", what));
    for (int one = 0; one < told.get(told.size() - 10); one++) {
      for (int what = 0; what < 9; what++) told.add(x.call("person", one, what));
    }
    for (int cell : new int[] {0, 1, 2, 8, 9, 10}) told.add(x.call("cell", cell));
  }

  /** Items 0 to 5 are told apart: of six people each enters a cell of his own by one pace. */
  private static void tellSheets(Edges x, int[] lanes, List<Long> told) {
    x.read(MARKERS);
    for (int sheet = 0; sheet < 4; sheet++) {
      for (int i = 0; i < 4; i++) told.add(x.call("who", sheet, lanes[sheet], i, 1));
      told.add(x.call("drop", sheet));
    }
  }

  private static void toldRefused() {
    keeps(LIVED, "feed 256 = BAD", "feed -1 = BAD", "person 0 9 = BAD", "person 2 0 = BAD", "cell 3 = BAD", "on 3 = BAD", "on 0 = NONE",
        "as 0 6 = BAD", "as 2 0 = BAD", "as 0 2 = CAST", "count 10 = BAD", "count -1 = BAD");
  }

  private static void actsRefused() {
    keeps(LIVED, "deed 0 4 = BAD", "deed 0 -1 = BAD", "deed 2 0 = BAD", "deed -1 0 = BAD", "look 0 3 = NOT", "look 1 1 = NOT",
        "look 0 4 = BAD", "look 2 0 = BAD", "build 2 1 = NOT", "build 9 1 = NOT", "build 0 0 = NOT", "build 10 1 = NOT", "build 3 1 = BAD",
        "build 0 2 = BAD", "build 0 -1 = BAD", "image 2 = BAD", "image -1 = BAD", "restore 2 = BAD", "restore -1 = BAD");
  }

  private static void foretoldRefused() {
    keeps(LIVED, "ends 0 100 = BAD", "ends 2 1 = BAD", "steps 0 -1 = BAD", "steps 2 1 = BAD", "later 0 21 = BAD", "later 2 1 = BAD",
        "judge 0 3 = BAD", "judge 2 0 = BAD", "judge 0 10 = NONE", "sides 2 0 = BAD", "sides 0 3 = BAD", "crime 0 0 2 = BAD",
        "crime 2 0 0 = BAD", "crime 0 3 0 = BAD", "crime 0 10 0 = NONE", "crime 0 2 1 = NONE", "order -2 = BAD", "order 2 = NONE",
        "guard 3 0 = BAD", "guard 0 3 = BAD", "guard 0 1 = NONE", "meet 0 0 1 = BAD", "meet 0 1 3 = BAD", "meet 0 2 1 = BAD",
        "law 0 0 = BAD", "law 1 2 = BAD", "odds 0 11 0 = BAD", "odds 3 1 0 = BAD", "odds 0 1 2 = BAD", "drawn 41 1 0 = BAD",
        "drawn 1 0 0 = BAD", "drawn 1 1 2 = BAD");
  }

  private static void sheetsRefused() {
    keeps(LIVED, "sheet 4 0 1 = BAD", "sheet 0 4 1 = BAD", "sheet 0 1 25 = BAD", "sheet 0 1 -1 = SIZE", "sheet 3 1 -1 = SIZE",
        "drop 4 = BAD", "drop -1 = BAD", "drop 3 = NULL", "item 4 0 0 1 = BAD", "item 0 4 1 1 = BAD", "item 3 0 0 1 = NULL",
        "item 0 1 1 1 = CAST", "item 0 0 3 1 = INDEX", "item 0 0 -1 1 = INDEX");
    keeps(LIVED, "copy 0 0 4 0 1 = BAD", "copy -1 0 0 0 1 = BAD", "copy 0 0 3 0 1 = NULL", "copy 3 0 0 0 1 = NULL",
        "copy 0 0 1 0 1 = CAST", "copy 1 0 2 1 3 = INDEX", "copy 1 2 2 0 3 = INDEX", "copy 1 0 2 0 4 = INDEX", "copy 1 0 2 0 -1 = INDEX",
        "copy 1 -1 2 0 1 = INDEX", "copy 1 0 2 -1 1 = INDEX", "copy 1 5 2 0 0 = INDEX", "copy 1 0 2 4 0 = INDEX");
    keeps(LIVED, "look 0 1, film 2 1 0 0 0 = BAD, undo", "film 0 0 0 0 0 = BAD", "film 0 9 0 0 0 = BAD", "film 0 1 4 0 0 = BAD",
        "film 0 1 0 4 0 = BAD", "film 0 1 3 0 0 = NULL", "film 0 1 0 1 0 = CAST", "film 0 1 0 0 3 = INDEX", "film 0 1 0 0 -1 = INDEX",
        "film 0 2 1 2 3 = INDEX", "film 0 1 0 0 0 = NOT", "film 0 3 1 2 0 = NOT", "look 0 1, film 0 3 1 2 0 = NOT, undo");
    for (String call : new String[] {"who", "due 0", "sorts 0"}) {
      keeps(LIVED, call + " 4 0 0 1 = BAD", call + " 0 4 0 1 = BAD", call + " 0 0 0 0 = BAD", call + " 0 0 0 9 = BAD",
          call + " 3 0 0 1 = NULL", call + " 0 1 0 1 = CAST", call + " 0 0 3 1 = INDEX", call + " 0 0 -1 1 = INDEX",
          call + " 0 0 2 2 = INDEX");
    }
    keeps(LIVED, "due 2 0 0 0 1 = BAD", "due 0 0 0 0 1 = NONE", "sorts 2 0 0 0 1 = BAD");
  }

  private static void withoutTown() {
    keeps(NO_TOWN, "person 0 0 = BAD", "cell 0 = BAD", "on 0 = BAD", "as 0 0 = BAD", "noon = NOT", "deed 0 0 = BAD", "look 0 0 = BAD",
        "build 0 1 = BAD", "build 0 0 = BAD", "undo = NONE", "image 0 = NOT", "image 1 = NOT", "restore 0 = NOT", "restore 1 = NOT");
    keeps(NO_TOWN, "ends 0 1 = BAD", "steps 0 1 = BAD", "later 0 1 = BAD", "barred = NOT", "judge 0 0 = BAD", "sides 0 0 = BAD",
        "crime 0 0 0 = BAD", "order 0 = NOT", "guard 0 0 = BAD", "meet 0 1 1 = BAD", "law 1 0 = NOT", "odds 0 1 0 = BAD",
        "drawn 1 1 0 = NOT", "film 0 1 0 0 0 = BAD", "who 0 0 0 1 = 0", "due 0 0 0 0 1 = BAD", "sorts 0 0 0 0 1 = BAD");
  }

  private static void fullTape() {
    // behind a full tape no byte tells what it holds, but the place of its fault
    for (String call : new String[] {"feed 46 = FULL", "feed 256 = BAD", "feed -1 = BAD"}) {
      Edges x = Edges.after(CHECK, "put lcf;..;p00n1;, feed 0 *127 = 140, " + call + ", count 7 = 140, town = fault 13");
      x.script("the tape is read: ", "count 7 = 0, count 0 = 0, read lcf;..;p00n1; = 1");
    }
  }

  private static void fault() {
    String emptied = LIVED.replace(", put lcf;..;p00n1", "");
    String without = readOut(Edges.after(CHECK, emptied));
    for (String text : new String[] {"x", "lto;", "lto;#;", "lto;~;p", "lto;~;c00e100;", "lto;~~;c00e1;c00e1;", "lto;~~;c00e1;c10e1"}) {
      Edges x = Edges.after(CHECK, emptied);
      long answer = x.read(text);
      CHECK.due("a FAULT: " + text, answer <= -100 ? 1 : 0, 1);
      CHECK.due("all else stays: " + text, readOut(x).equals(without) ? 1 : 0, 1);
    }
  }

  private static void noneLeft() {
    keeps(LIVED.replace("image 0 = 0, ", "").replace("image 1 = 1, ", ""), "restore 0 = NOT", "restore 1 = NOT");
    keeps(LIVED + ", undo, undo, undo", "undo = NONE");
    keeps("read lcf;..#/.+.;p00w1;c10n1;, put lcf;..;p00n1", "undo = NONE", "restore 0 = NOT", "drop 0 = NULL", "item 0 0 0 0 = NULL",
        "copy 0 0 0 0 0 = NULL");
  }

  private static void toldAndForetold() {
    keeps(LIVED, "person 0 1 = 2", "cell 1 = 0", "on 2 = 0", "as 0 0 = 0", "count 6 = 3", "ends 0 9 = 2", "steps 0 99 = 0", "later 0 20 = 2",
        "later 1 3", "barred = 0", "judge 0 2 = 0", "sides 0 1 = 2", "crime 0 0 0 = 3", "crime 0 0 1 = 10", "order -1", "order 0 = 0", "guard 1 0 = 0",
        "guard 8 2 = NONE", "meet 0 1 2", "meet 1 0 1", "law 1 0", "law 2 1", "law 3 0", "odds 1 5 0", "odds 9 5 1", "drawn 40 7 0",
        "drawn 40 7 1");
    keeps(LIVED, "who 1 2 0 1", "due 0 1 2 0 1", "sorts 0 1 2 0 1", "who 0 0 1 1 = 0", "due 1 0 0 0 2 = NONE", "sorts 1 0 0 0 2 = 0",
        "copy 1 4 2 3 0 = 0", "copy 1 0 1 0 4 = 4", "item 0 0 1 5 = 5");
    String doors = "read lcf;+.+/+++;p10w9;b11n9;, sheet 0 0 3, put lcf;..;p00n1";
    keeps(doors, "ends 0 9 = 2", "steps 0 9 = 1", "later 0 3", "barred", "judge 0 2 = 3", "sides 0 2 = 8", "crime 0 2 0 = 3", "order 0 = 0",
        "guard 2 0 = NONE", "meet 0 1 2", "law 3 1", "odds 2 5 1 = 2", "drawn 40 7 0", "who 0 0 0 1 = 0", "due 0 0 0 0 1 = NONE",
        "sorts 1 0 0 0 1 = 0");
  }
}
