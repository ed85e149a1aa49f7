import java.util.Map;

/**
 * Tests as rows: a sentence of the document, a town (or none), and calls on one new object with the answers that are
 * due by that sentence: "deed 0 1 = 5, noon *2 = 0" (twice; the last answer is told), "read TEXT = 1" (a town),
 * "put TEXT" (bytes for the tape), "fault 4" (-104). A call without "=" is only made.
 */
final class Edges {
  /** An object is used for at most 512 calls; what later calls answer is free. */
  private static final int CALLS = 512;
  private static final Map<String, Long> WORDS = Map.of("BAD", -1L, "NOT", -2L, "FULL", -3L, "NONE", -4L, "NULL", -11L,
      "CAST", -12L, "INDEX", -13L, "SIZE", -14L, "max", (long) Integer.MAX_VALUE, "min", (long) Integer.MIN_VALUE);

  private final Check check;
  private final NoonPaces object = new NoonPaces();
  private int calls;

  private Edges(Check check) {
    this.check = check;
  }

  static void row(Check check, String sentence, String town, String calls) {
    Edges edges = new Edges(check);
    if (!town.isEmpty() && edges.read(town) < 1) throw new IllegalStateException("no town: " + town);
    edges.script(sentence + ": " + town + " ", calls);
  }

  /** A new object on which these calls were made. */
  static Edges after(Check check, String calls) {
    Edges edges = new Edges(check);
    edges.script("", calls);
    return edges;
  }

  void script(String name, String script) {
    for (String line : script.split(",")) {
      String[] sides = line.trim().split(" = ");
      long got = made(sides[0]);
      if (sides.length > 1) check.due(name + sides[0], got, number(sides[1].trim()));
    }
  }

  private long made(String call) {
    String[] words = call.trim().split(" +");
    int times = 1;
    int size = words.length;
    if (words[size - 1].startsWith("*")) times = Integer.parseInt(words[--size].substring(1));
    long got = 0;
    for (int k = 0; k < times; k++) {
      if (words[0].equals("read")) got = read(words[1]);
      else if (words[0].equals("put")) got = put(words[1]);
      else got = call(words, size);
    }
    return got;
  }

  private long call(String[] words, int size) {
    long[] numbers = new long[size - 1];
    for (int k = 1; k < size; k++) numbers[k - 1] = number(words[k]);
    return call(words[0], numbers);
  }

  long call(String name, long... numbers) {
    if (Caller.numbersOf(name) != numbers.length) throw new IllegalStateException(name + " by " + numbers.length + " numbers");
    calls++;
    if (calls > CALLS) throw new IllegalStateException("too many calls for one object");
    return Caller.call(object, name, numbers);
  }

  int calls() {
    return calls;
  }

  private long put(String text) {
    long last = 0;
    for (int k = 0; k < text.length(); k++) last = call("feed", text.charAt(k));
    return last;
  }

  long read(String text) {
    put(text);
    return call("town");
  }

  private static long number(String word) {
    if (word.startsWith("fault ")) return -100 - Long.parseLong(word.substring(6));
    return WORDS.containsKey(word) ? WORDS.get(word) : Long.parseLong(word);
  }
}
