import java.util.Random;

/** Makes calls by name, with numbers that are often as told and sometimes wild. */
final class Caller {
  static final String[] FACE = {"feed:l", "town:", "person:ow", "cell:c", "on:c", "as:ok", "noon:", "deed:od",
    "look:os", "build:cu", "undo:", "image:u", "restore:u", "ends:on", "steps:on", "later:ot", "barred:", "judge:oc",
    "sides:oc", "crime:ocu", "order:k", "guard:cv", "meet:oov", "law:vu", "odds:ctu", "drawn:txu", "sheet:sdi",
    "drop:s", "item:sdiy", "copy:sisii", "film:oesdi", "who:sdie", "due:osdie", "sorts:osdie", "count:w"};

  private static final long[] WILD = {-1, -2, 64, 256, 100, 25, Integer.MAX_VALUE, Integer.MIN_VALUE};

  private final Random random;

  Caller(long seed) {
    random = new Random(seed);
  }

  int below(int n) {
    return random.nextInt(n);
  }

  static String nameOf(String call) {
    return call.substring(0, call.indexOf(':'));
  }

  /** How many numbers a call takes. */
  static int numbersOf(String name) {
    for (String call : FACE) {
      if (nameOf(call).equals(name)) return call.length() - name.length() - 1;
    }
    throw new IllegalArgumentException(name);
  }

  long[] numbersFor(String call, int wildness) {
    String types = call.substring(call.indexOf(':') + 1);
    long[] numbers = new long[types.length()];
    for (int k = 0; k < numbers.length; k++) {
      boolean wild = random.nextInt(1000) < wildness;
      numbers[k] = wild ? WILD[random.nextInt(WILD.length)] : numberFor(types.charAt(k));
    }
    // sheets mostly have the lane of their own number, so that most calls get beyond CAST
    int sheet = types.indexOf("sd");
    if (sheet >= 0 && random.nextInt(8) != 0) numbers[sheet + 1] = numbers[sheet];
    return numbers;
  }

  private long numberFor(char type) {
    switch (type) {
      case 'l': return random.nextInt(256);
      case 'o': return random.nextInt(6);
      case 'w': return random.nextInt(10);
      case 'c': return 8 * random.nextInt(8) + random.nextInt(8);
      case 'k': return random.nextInt(8) - 1;
      case 'd': case 's': return random.nextInt(4);
      case 'u': return random.nextInt(2);
      case 'v': return random.nextInt(4);
      case 'n': return random.nextInt(3) == 0 ? random.nextInt(100) : random.nextInt(12);
      case 't': return random.nextInt(12);
      case 'x': return 1 + random.nextInt(999999);
      case 'i': return random.nextInt(7);
      case 'e': return 1 + random.nextInt(4);
      case 'y': return random.nextBoolean() ? random.nextInt(64) : random.nextLong();
      default: throw new IllegalArgumentException(String.valueOf(type));
    }
  }

  String town() {
    int w = 1 + random.nextInt(8);
    int h = 1 + random.nextInt(8);
    String grounds = random.nextInt(3) == 0 ? ".........." : random.nextInt(3) == 0 ? "..++~^#" : "........#~^++";
    StringBuilder text = new StringBuilder("l").append("ccct".charAt(random.nextInt(4))).append("fo".charAt(random.nextInt(2)));
    for (int y = 0; y < h; y++) {
      text.append(y == 0 ? ';' : '/');
      for (int x = 0; x < w; x++) text.append(grounds.charAt(random.nextInt(grounds.length())));
    }
    text.append(';');
    int people = 1 + random.nextInt(6);
    boolean[] taken = new boolean[64];
    for (int k = 0; k < people; k++) {
      int x = random.nextInt(w);
      int y = random.nextInt(h);
      boolean wall = text.charAt(4 + y * (w + 1) + x) == '#';
      if ((wall || taken[8 * y + x]) && random.nextInt(40) != 0) continue;
      taken[8 * y + x] = true;
      text.append("pcdeb".charAt(random.nextInt(5))).append(x).append(y).append("nesw".charAt(random.nextInt(4)));
      text.append(random.nextInt(3) == 0 ? random.nextInt(100) : random.nextInt(12)).append(';');
    }
    return text.toString();
  }

  /** A town with one byte another, gone or come, so that it is mostly none. */
  String spoilt(String text) {
    if (text.isEmpty()) return text;
    int k = random.nextInt(text.length());
    char letter = ";/.#~^+0123456789nesw pcdebltfo".charAt(random.nextInt(31));
    switch (random.nextInt(4)) {
      case 0: return text.substring(0, k) + letter + text.substring(k + 1);
      case 1: return text.substring(0, k) + text.substring(k + 1);
      case 2: return text.substring(0, k) + letter + text.substring(k);
      default: return text.substring(0, k);
    }
  }

  static long call(NoonPaces x, String name, long[] a) {
    int p = a.length > 0 ? (int) a[0] : 0;
    int q = a.length > 1 ? (int) a[1] : 0;
    int r = a.length > 2 ? (int) a[2] : 0;
    int s = a.length > 3 ? (int) a[3] : 0;
    int t = a.length > 4 ? (int) a[4] : 0;
    switch (name) {
      case "feed": return x.feed(p);
      case "town": return x.town();
      case "person": return x.person(p, q);
      case "cell": return x.cell(p);
      case "on": return x.on(p);
      case "as": return x.as(p, q);
      case "noon": return x.noon();
      case "deed": return x.deed(p, q);
      case "look": return x.look(p, q);
      case "build": return x.build(p, q);
      case "undo": return x.undo();
      case "image": return x.image(p);
      case "restore": return x.restore(p);
      case "ends": return x.ends(p, q);
      case "steps": return x.steps(p, q);
      case "later": return x.later(p, q);
      case "barred": return x.barred();
      case "judge": return x.judge(p, q);
      case "sides": return x.sides(p, q);
      case "crime": return x.crime(p, q, r);
      case "order": return x.order(p);
      case "guard": return x.guard(p, q);
      case "meet": return x.meet(p, q, r);
      case "law": return x.law(p, q);
      case "odds": return x.odds(p, q, r);
      case "drawn": return x.drawn(p, q, r);
      case "sheet": return x.sheet(p, q, r);
      case "drop": return x.drop(p);
      case "item": return x.item(p, q, r, a[3]);
      case "copy": return x.copy(p, q, r, s, t);
      case "film": return x.film(p, q, r, s, t);
      case "who": return x.who(p, q, r, s);
      case "due": return x.due(p, q, r, s, t);
      case "sorts": return x.sorts(p, q, r, s, t);
      case "count": return x.count(p);
      default: throw new IllegalArgumentException(name);
    }
  }
}
