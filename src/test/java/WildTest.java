import java.util.Arrays;
import java.util.List;

/** Any numbers in any state: no call throws, and what is refused or foretold changes nothing. */
public final class WildTest {
  private static final Check CHECK = new Check();
  private static final List<String> CHANGING = List.of("feed", "town", "noon", "deed", "look", "build", "undo", "image",
      "restore", "sheet", "drop", "item", "copy", "film");

  public static void main(String[] args) {
    for (int seed = 0; seed < 200; seed++) run(seed);
    CHECK.end();
  }

  private static void run(int seed) {
    Caller caller = new Caller(seed);
    NoonPaces x = new NoonPaces();
    if (seed % 5 != 0) Check.read(x, caller.town());
    for (int sheet = 0; sheet < 3; sheet++) x.sheet(sheet, sheet, 8);
    for (int k = 0; k < 300; k++) {
      String call = Caller.FACE[caller.below(Caller.FACE.length)];
      String name = Caller.nameOf(call);
      long[] numbers = caller.numbersFor(call, 250);
      String before = stateOf(x);
      long answer = Caller.call(x, name, numbers);
      boolean keeps = !CHANGING.contains(name) || answer < 0 && !name.equals("town") && !name.equals("item");
      if (keeps) {
        String told = "run " + seed + ": " + name + Arrays.toString(numbers) + " changes nothing";
        CHECK.due(told, stateOf(x).equals(before) ? 1 : 0, 1);
      }
    }
  }

  private static String stateOf(NoonPaces x) {
    StringBuilder text = new StringBuilder();
    for (int cell = 0; cell < 64; cell++) text.append(x.cell(cell)).append(' ');
    for (int one = 0; one < x.count(0); one++) {
      for (int what = 0; what < 9; what++) text.append(x.person(one, what)).append(' ');
    }
    for (int what = 0; what < 10; what++) text.append(x.count(what)).append(' ');
    return text.toString();
  }
}
