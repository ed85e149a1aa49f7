import java.util.Arrays;

/** All promises: random runs of calls, each answered by the class as by the model. */
public final class ModelTest {
  private static final Check CHECK = new Check();
  /** Behind so many calls there is room among the 512 for a town, a call, a film's marks, and all that is told at last. */
  private static final int LAST = 512 - 120 - 27 - 130;

  public static void main(String[] args) {
    int runs = args.length > 0 ? Integer.parseInt(args[0]) : 3000;
    int start = args.length > 1 ? Integer.parseInt(args[1]) : 0;
    for (int run = start; run < start + runs; run++) run(run);
    for (int run = start; run < start + runs; run++) faults(run);
    CHECK.end();
  }

  private static void run(int seed) {
    Caller caller = new Caller(seed);
    Edges x = Edges.after(CHECK, "count 0 = 0");
    Model model = new Model();
    if (seed % 10 != 0) read(caller, x, model, caller.town(), seed);
    for (int sheet = 0; sheet < 3; sheet++) both(x, model, "sheet", new long[] {sheet, sheet, 8}, seed);
    while (x.calls() < LAST) {
      if (caller.below(100) == 0) {
        String text = caller.town();
        read(caller, x, model, caller.below(3) == 0 ? caller.spoilt(text) : text, seed);
      }
      String call = Caller.FACE[caller.below(Caller.FACE.length)];
      // at their full depth the model's trials take too long for each run
      if (call.startsWith("meet") && caller.below(4) != 0) continue;
      long[] numbers = caller.numbersFor(call, 30);
      if (call.startsWith("meet") && numbers[2] == 2 && caller.below(8) != 0) numbers[2] = 1;
      both(x, model, Caller.nameOf(call), numbers, seed);
      if (call.startsWith("film")) marks(x, model, numbers, seed);
    }
    all(x, model, seed);
  }

  /** Who, due and sorts by what was filmed just now, and by one mark fewer. */
  private static void marks(Edges x, Model model, long[] film, int seed) {
    for (long n = film[1]; n >= film[1] - 1; n--) {
      both(x, model, "who", new long[] {film[2], film[3], film[4], n}, seed);
      for (int one = 0; one < 6; one++) {
        both(x, model, "due", new long[] {one, film[2], film[3], film[4], n}, seed);
        both(x, model, "sorts", new long[] {one, film[2], film[3], film[4], n}, seed);
      }
    }
  }

  private static void both(Edges x, Model model, String name, long[] numbers, int seed) {
    CHECK.due("run " + seed + ": " + name + Arrays.toString(numbers), x.call(name, numbers), model.call(name, numbers));
  }

  private static void read(Caller caller, Edges x, Model model, String text, int seed) {
    for (int k = 0; k < text.length(); k++) both(x, model, "feed", new long[] {text.charAt(k)}, seed);
    both(x, model, "town", new long[0], seed);
  }

  private static void all(Edges x, Model model, int seed) {
    for (int cell = 0; cell < 64; cell++) both(x, model, "cell", new long[] {cell}, seed);
    for (int one = 0; one < 6; one++) {
      for (int what = 0; what < 9; what++) both(x, model, "person", new long[] {one, what}, seed);
    }
    for (int what = 0; what < 10; what++) both(x, model, "count", new long[] {what}, seed);
  }

  private static void faults(int seed) {
    Caller caller = new Caller(seed);
    for (int k = 0; k < 4; k++) {
      String text = caller.town();
      for (int j = caller.below(3); j >= 0; j--) text = caller.spoilt(text);
      Model model = new Model();
      NoonPaces x = new NoonPaces();
      for (int j = 0; j < text.length(); j++) model.call("feed", new long[] {text.charAt(j)});
      CHECK.due("faults " + seed + ": " + text, Check.read(x, text), model.call("town", new long[0]));
    }
  }
}
