import java.util.ArrayList;
import java.util.Arrays;
import java.util.List;

/** Any numbers in any state: no call throws, and what is refused or foretold changes nothing. */
public final class WildTest {
  private static final Check CHECK = new Check();
  private static final List<String> CHANGING = List.of("feed", "town", "noon", "deed", "look", "build", "undo", "image",
      "restore", "sheet", "drop", "item", "copy", "film");

  public static void main(String[] args) {
    for (int seed = 0; seed < 2000; seed++) run(seed);
    CHECK.end();
  }

  /** Two objects, of which one is spared all calls by which nothing changes; at last both tell the same. */
  private static void run(int seed) {
    Caller caller = new Caller(seed);
    Edges x = Edges.after(CHECK, "sheet 0 0 8, sheet 1 1 8, sheet 2 2 8");
    Edges spared = Edges.after(CHECK, "sheet 0 0 8, sheet 1 1 8, sheet 2 2 8");
    if (seed % 5 != 0) {
      String text = caller.town();
      CHECK.due("run " + seed + ": " + text, x.read(text), spared.read(text));
    }
    for (int k = 0; k < 200; k++) {
      String call = Caller.FACE[caller.below(Caller.FACE.length)];
      String name = Caller.nameOf(call);
      long[] numbers = caller.numbersFor(call, 250);
      long answer = x.call(name, numbers);
      // a town at fault empties the tape, and an item may be below 0
      boolean keeps = !CHANGING.contains(name) || answer < 0 && !name.equals("town") && !name.equals("item");
      if (!keeps) CHECK.due("run " + seed + ": " + name + Arrays.toString(numbers), spared.call(name, numbers), answer);
    }
    CHECK.due("run " + seed + " changes nothing", stateOf(x).equals(stateOf(spared)) ? 1 : 0, 1);
  }

  private static List<Long> stateOf(Edges x) {
    List<Long> told = new ArrayList<>();
    for (int what = 0; what < 10; what++) told.add(x.call("count", what));
    for (int one = 0; one < told.get(0); one++) {
      for (int what = 0; what < 9; what++) told.add(x.call("person", one, what));
    }
    for (int cell = 0; cell < 64; cell++) told.add(x.call("cell", cell));
    for (int sheet = 0; sheet < 4; sheet++) {
      for (int lane = 0; lane < 4; lane++) told.add(x.call("who", sheet, lane, 0, 1));
      told.add(x.call("drop", sheet));
    }
    told.add(x.call("undo"));
    told.add(x.call("restore", 0));
    told.add(x.call("restore", 1));
    told.add(x.call("town"));
    return told;
  }
}
