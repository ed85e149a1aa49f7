/** What every test here uses: counts the answers that are not as due, and ends with 1 if there was one. */
final class Check {
  private int calls;
  private int wrong;

  void due(String call, long got, long want) {
    calls++;
    if (got == want) return;
    wrong++;
    if (wrong <= 50) System.out.println(call + " answered " + got + ", due is " + want);
  }

  void end() {
    System.out.println(calls + " answers, " + wrong + " not as due");
    if (wrong != 0) System.exit(1);
  }

  static int read(NoonPaces x, String text) {
    for (int k = 0; k < text.length(); k++) x.feed(text.charAt(k));
    return x.town();
  }

  static NoonPaces in(String text) {
    NoonPaces x = new NoonPaces();
    int people = read(x, text);
    if (people < 1) throw new IllegalStateException("no town: " + text + " (" + people + ")");
    return x;
  }
}
