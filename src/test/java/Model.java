import java.util.ArrayDeque;
import java.util.ArrayList;
import java.util.Arrays;
import java.util.Deque;
import java.util.HashMap;
import java.util.List;
import java.util.Map;
import java.util.PriorityQueue;
import java.util.function.ToIntFunction;
import java.util.regex.Matcher;
import java.util.regex.Pattern;

/** A second reading of the document, by the library's means and by trying out everything; slow on purpose. */
final class Model {
  private static final int BAD = -1, NOT = -2, FULL = -3, NONE = -4, NULL = -11, CAST = -12, INDEX = -13, SIZE = -14;
  private static final int[] FINES = {3, 5, 9, 30};
  private static final int[] DX = {0, 1, 0, -1};
  private static final int[] DY = {-1, 0, 1, 0};

  private static final class One {
    char sort;
    int x;
    int y;
    int side;
    int owes;
    int entered;
    int[] deeds = new int[4];

    One twin() {
      One o = new One();
      o.sort = sort;
      o.x = x;
      o.y = y;
      o.side = side;
      o.owes = owes;
      o.entered = entered;
      o.deeds = deeds.clone();
      return o;
    }

    int cell() {
      return 8 * y + x;
    }
  }

  private static final class Place {
    boolean court;
    boolean over;
    int noon;
    char[][] map;
    final List<One> people = new ArrayList<>();

    Place twin() {
      Place p = new Place();
      p.court = court;
      p.over = over;
      p.noon = noon;
      p.map = new char[map.length][];
      for (int y = 0; y < map.length; y++) p.map[y] = map[y].clone();
      for (One o : people) p.people.add(o.twin());
      return p;
    }

    boolean inside(int x, int y) {
      return y >= 0 && y < map.length && x >= 0 && x < map[0].length;
    }

    One at(int x, int y) {
      for (One o : people) if (o.x == x && o.y == y) return o;
      return null;
    }

    int sideOf(One o) {
      int looks = court ? 0 : o.side;
      return o.sort == 'd' ? (looks + 3) % 4 : (looks + 2) % 4;
    }

    /** The walk in full, with all that comes of it; a pace is spent at a time. */
    List<Integer> walk(One o) {
      List<Integer> cells = new ArrayList<>();
      if (o.owes == 0) return cells;
      int side = sideOf(o);
      int paces = o.sort == 'c' ? o.owes / 2 : o.owes;
      while (true) {
        int x = o.x + DX[side];
        int y = o.y + DY[side];
        if (!inside(x, y) || at(x, y) != null) break;
        char ground = map[y][x];
        boolean old = o.sort == 'e' || o.sort == 'b';
        if (ground == '#' || old && (ground == '~' || ground == '^')) break;
        int cost = ground == '.' ? 1 : ground == '+' ? 3 : 2;
        if (paces < cost) break;
        paces -= cost;
        if (ground == '+') map[y][x] = '.';
        o.x = x;
        o.y = y;
        cells.add(o.cell());
      }
      o.owes = over ? paces : 0;
      o.entered += cells.size();
      left = paces;
      if (o.sort == 'b') o.side = (o.side + 1) % 4;
      return cells;
    }

    int left;

    List<Integer> noon() {
      List<Integer> cells = new ArrayList<>();
      for (One o : people) cells.addAll(walk(o));
      noon++;
      return cells;
    }

    void deed(One o, int deed) {
      o.owes = Math.min(99, o.owes + FINES[deed] + o.deeds[deed]);
      o.deeds[deed]++;
    }

    int owed() {
      return people.stream().mapToInt(o -> o.owes).sum();
    }
  }

  private final StringBuilder tape = new StringBuilder();
  private Place town;
  private final Deque<Place> acts = new ArrayDeque<>();
  private final Place[] images = new Place[2];
  private final long[][] rows = new long[4][];
  private final int[] lanes = new int[4];

  private boolean person(int one) {
    return town != null && one >= 0 && one < town.people.size();
  }

  private boolean cellIn(int cell) {
    return town != null && cell >= 0 && cell <= 63 && town.inside(cell % 8, cell / 8);
  }

  private static boolean in(int v, int low, int high) {
    return v >= low && v <= high;
  }

  private void act() {
    acts.push(town.twin());
    if (acts.size() > 24) acts.removeLast();
  }

  /** Each call by its name, in the order of the document's face. */
  long call(String name, long[] a) {
    int p = a.length > 0 ? (int) a[0] : 0;
    int q = a.length > 1 ? (int) a[1] : 0;
    int r = a.length > 2 ? (int) a[2] : 0;
    int s = a.length > 3 ? (int) a[3] : 0;
    int t = a.length > 4 ? (int) a[4] : 0;
    switch (name) {
      case "feed": return feed(p);
      case "town": return town();
      case "person": return person(p, q);
      case "cell": return cellIn(p) ? ".#~^+".indexOf(town.map[p / 8][p % 8]) : BAD;
      case "on": return cellIn(p) ? town.people.indexOf(town.at(p % 8, p / 8)) < 0 ? NONE
          : town.people.indexOf(town.at(p % 8, p / 8)) : BAD;
      case "as": return as(p, q);
      case "noon": return noon();
      case "deed": return deed(p, q);
      case "look": return look(p, q);
      case "build": return build(p, q);
      case "undo": return undo();
      case "image": return image(p);
      case "restore": return restore(p);
      case "ends": return person(p) && in(q, 0, 99) ? alone(p, q, -1, '?').get(0) : BAD;
      case "steps": return person(p) && in(q, 0, 99) ? alone(p, q, -1, '?').size() - 1 : BAD;
      case "later": return later(p, q);
      case "barred": return barred();
      case "judge": return judge(p, q);
      case "sides": return sides(p, q);
      case "crime": return crime(p, q, r);
      case "order": return order(p);
      case "guard": return guard(p, q);
      case "meet": return meet(p, q, r);
      case "law": return law(p, q);
      case "odds": return odds(p, q, r);
      case "drawn": return drawn(p, q, r);
      case "sheet": return sheet(p, q, r);
      case "drop": return drop(p);
      case "item": return item(p, q, r, a[3]);
      case "copy": return copy(p, q, r, s, t);
      case "film": return film(p, q, r, s, t);
      case "who": return who(p, q, r, s);
      case "due": return due(p, q, r, s, t);
      case "sorts": return sorts(p, q, r, s, t);
      case "count": return count(p);
      default: throw new IllegalArgumentException(name);
    }
  }

  private int feed(int letter) {
    if (!in(letter, 0, 255)) return BAD;
    if (tape.length() == 140) return FULL;
    tape.append((char) letter);
    return tape.length();
  }

  private static final Map<Integer, Pattern> SHAPES = new HashMap<>();

  private static Pattern shape(int w, int h) {
    return SHAPES.computeIfAbsent(w * 10 + h, k -> {
      String row = "[.#~^+]{" + w + "}";
      return Pattern.compile("l[ct][fo];" + row + "(?:/" + row + "){" + (h - 1) + "};(?:[pcdeb][0-" + (w - 1) + "][0-"
          + (h - 1) + "][nesw][0-9]{1,2};){1,6}");
    });
  }

  /** How far a text can be the start of a town, by all shapes that a town can have. */
  private static int viable(String text) {
    for (int k = text.length(); k > 0; k--) {
      for (int w = 1; w <= 8; w++) {
        for (int h = 1; h <= 8; h++) {
          Matcher m = shape(w, h).matcher(text.substring(0, k));
          if (m.matches() || m.hitEnd()) return k;
        }
      }
    }
    return 0;
  }

  private int town() {
    String text = tape.toString();
    tape.setLength(0);
    int good = viable(text);
    String head = text.substring(0, good);
    String[] parts = head.split(";", -1);
    int fault = good < text.length() ? good : Integer.MAX_VALUE;
    if (parts.length >= 3) {
      // of a part that goes on the last piece may be cut short; its column and row count, if both are there
      String[] rowsTold = parts[1].split("/");
      List<String> taken = new ArrayList<>();
      int place = parts[0].length() + parts[1].length() + 2;
      for (int k = 2; k < parts.length; k++) {
        if (parts[k].length() >= 3) {
          String where = parts[k].substring(1, 3);
          boolean wall = rowsTold[where.charAt(1) - '0'].charAt(where.charAt(0) - '0') == '#';
          if (wall || taken.contains(where)) return -100 - Math.min(fault, place + 1);
          taken.add(where);
        }
        if (k == parts.length - 1 && parts[k].length() == 6 && good < text.length()
            && Character.isDigit(text.charAt(good))) fault = Math.min(fault, place + 4);
        place += parts[k].length() + 1;
      }
    }
    if (fault != Integer.MAX_VALUE) return -100 - fault;
    boolean whole = false;
    for (int w = 1; w <= 8; w++) {
      for (int h = 1; h <= 8; h++) whole |= shape(w, h).matcher(text).matches();
    }
    if (!whole) return -100 - text.length();
    Place p = new Place();
    p.court = parts[0].charAt(1) == 't';
    p.over = parts[0].charAt(2) == 'o';
    String[] told = parts[1].split("/");
    p.map = new char[told.length][];
    for (int y = 0; y < told.length; y++) p.map[y] = told[y].toCharArray();
    for (int k = 2; k < parts.length - 1; k++) {
      One o = new One();
      o.sort = parts[k].charAt(0);
      o.x = parts[k].charAt(1) - '0';
      o.y = parts[k].charAt(2) - '0';
      o.side = "nesw".indexOf(parts[k].charAt(3));
      o.owes = Integer.parseInt(parts[k].substring(4));
      p.people.add(o);
    }
    town = p;
    acts.clear();
    return p.people.size();
  }

  private int person(int one, int what) {
    if (!person(one)) return BAD;
    One o = town.people.get(one);
    int[] told = {"?pcdeb".indexOf(o.sort), o.cell(), o.side, o.owes, o.entered,
      o.deeds[0], o.deeds[1], o.deeds[2], o.deeds[3]};
    return in(what, 0, 8) ? told[what] : BAD;
  }

  private int as(int one, int kind) {
    if (!person(one) || !in(kind, 0, 5)) return BAD;
    String[] under = {"pcdeb", "pcd", "c", "d", "eb", "b"};
    return under[kind].indexOf(town.people.get(one).sort) >= 0 ? one : CAST;
  }

  private int noon() {
    if (town == null) return NOT;
    if (town.noon == 9999) return FULL;
    act();
    return town.noon().size();
  }

  private int deed(int one, int deed) {
    if (!person(one) || !in(deed, 0, 3)) return BAD;
    act();
    town.deed(town.people.get(one), deed);
    return town.people.get(one).owes;
  }

  private int look(int one, int side) {
    if (!person(one) || !in(side, 0, 3)) return BAD;
    int was = town.people.get(one).side;
    if (was == side) return NOT;
    act();
    town.people.get(one).side = side;
    return was;
  }

  private int build(int cell, int up) {
    if (!cellIn(cell) || !in(up, 0, 1)) return BAD;
    char was = town.map[cell / 8][cell % 8];
    char then = up == 1 ? '#' : '.';
    if (was == then || up == 1 && town.at(cell % 8, cell / 8) != null) return NOT;
    act();
    town.map[cell / 8][cell % 8] = then;
    return ".#~^+".indexOf(was);
  }

  private int undo() {
    if (acts.isEmpty()) return NONE;
    town = acts.pop();
    return acts.size();
  }

  private int image(int k) {
    if (!in(k, 0, 1)) return BAD;
    if (town == null) return NOT;
    images[k] = town.twin();
    return town.noon;
  }

  private int restore(int k) {
    if (!in(k, 0, 1)) return BAD;
    if (images[k] == null) return NOT;
    town = images[k].twin();
    acts.clear();
    return town.noon;
  }

  /** Where one would end, and behind it the cells that he would enter; side -1 and sort '?': his own. */
  private List<Integer> alone(int one, int owed, int side, char sort) {
    Place p = town.twin();
    One o = p.people.get(one);
    o.owes = owed;
    if (side >= 0) o.side = side;
    if (sort != '?') o.sort = sort;
    List<Integer> all = new ArrayList<>(p.walk(o));
    all.add(0, o.cell());
    return all;
  }

  private int later(int one, int n) {
    if (!person(one) || !in(n, 0, 20)) return BAD;
    Place p = town.twin();
    for (int k = 0; k < n; k++) p.noon();
    return p.people.get(one).cell();
  }

  private int barred() {
    if (town == null) return NOT;
    Place p = town.twin();
    int set = 0;
    for (int k = 0; k < p.people.size(); k++) {
      One o = p.people.get(k);
      if (o.owes == 0) continue;
      int side = p.sideOf(o);
      p.walk(o);
      if (p.left >= 1 && p.at(o.x + DX[side], o.y + DY[side]) != null) set |= 1 << k;
    }
    return set;
  }

  private int judge(int one, int cell) {
    if (!person(one) || !cellIn(cell)) return BAD;
    for (int n = 0; n <= 99; n++) if (alone(one, n, -1, '?').get(0) == cell) return n;
    return NONE;
  }

  private int sides(int one, int cell) {
    if (!person(one) || !cellIn(cell)) return BAD;
    int set = 0;
    for (int side = 0; side < 4; side++) {
      for (int n = 0; n <= 99; n++) if (alone(one, n, side, '?').get(0) == cell) set |= 1 << side;
    }
    return set;
  }

  private int landing(int one, int from, int side, int deed) {
    Place p = town.twin();
    One o = p.people.get(one);
    o.x = from % 8;
    o.y = from / 8;
    o.side = side;
    o.owes = FINES[deed];
    p.walk(o);
    return o.cell();
  }

  private int cheapest(int one, int from, int goal, int[][] landings) {
    int[] best = new int[64];
    Arrays.fill(best, Integer.MAX_VALUE);
    best[from] = 0;
    PriorityQueue<int[]> open = new PriorityQueue<>((x, y) -> x[1] - y[1]);
    open.add(new int[] {from, 0});
    while (!open.isEmpty()) {
      int[] next = open.poll();
      if (next[0] == goal) return next[1];
      if (next[1] > best[next[0]]) continue;
      if (landings[next[0]] == null) {
        landings[next[0]] = new int[16];
        for (int k = 0; k < 16; k++) landings[next[0]][k] = landing(one, next[0], k / 4, k % 4);
      }
      for (int k = 0; k < 16; k++) {
        int to = landings[next[0]][k];
        int cost = next[1] + FINES[k % 4];
        if (cost < best[to]) {
          best[to] = cost;
          open.add(new int[] {to, cost});
        }
      }
    }
    return NONE;
  }

  private int crime(int one, int cell, int what) {
    if (!person(one) || !cellIn(cell) || !in(what, 0, 1)) return BAD;
    int[][] landings = new int[64][];
    int from = town.people.get(one).cell();
    int least = cheapest(one, from, cell, landings);
    if (what == 0 || least <= 0) return what == 0 ? least : NONE;
    for (int k = 0; k < 16; k++) {
      int rest = cheapest(one, landing(one, from, k / 4, k % 4), cell, landings);
      if (rest >= 0 && rest + FINES[k % 4] == least) return 10 * (k / 4) + k % 4;
    }
    throw new IllegalStateException("no first walk");
  }

  private int bestCells;
  private List<Integer> bestRow;

  private void orders(List<Integer> row, List<Integer> left) {
    if (left.isEmpty()) {
      Place p = town.twin();
      int cells = 0;
      for (int one : row) cells += p.walk(p.people.get(one)).size();
      if (cells > bestCells) {
        bestCells = cells;
        bestRow = new ArrayList<>(row);
      }
    }
    for (int one : left) {
      List<Integer> longer = new ArrayList<>(row);
      longer.add(one);
      List<Integer> fewer = new ArrayList<>(left);
      fewer.remove((Integer) one);
      orders(longer, fewer);
    }
  }

  private List<Integer> debtors() {
    List<Integer> all = new ArrayList<>();
    for (int k = 0; k < town.people.size(); k++) if (town.people.get(k).owes > 0) all.add(k);
    return all;
  }

  private int order(int k) {
    if (k < -1) return BAD;
    if (town == null) return NOT;
    bestCells = -1;
    orders(new ArrayList<>(), debtors());
    if (k == -1) return bestCells;
    return k < bestRow.size() ? bestRow.get(k) : NONE;
  }

  private boolean alone(int cell, int... walls) {
    Place p = town.twin();
    for (int w : walls) p.map[w / 8][w % 8] = '#';
    return !p.noon().contains(cell);
  }

  private int guard(int cell, int what) {
    if (!cellIn(cell) || !in(what, 0, 2)) return BAD;
    if (alone(cell)) return what == 0 ? 0 : NONE;
    List<Integer> streets = new ArrayList<>();
    for (int c = 0; c < 64; c++) {
      if (c != cell && cellIn(c) && town.map[c / 8][c % 8] == '.' && town.at(c % 8, c / 8) == null) streets.add(c);
    }
    for (int c : streets) if (alone(cell, c)) return what == 0 ? 1 : what == 1 ? c : NONE;
    for (int c : streets) {
      for (int d : streets) if (c < d && alone(cell, c, d)) return what == 0 ? 2 : what == 1 ? c : d;
    }
    return NONE;
  }

  private static int play(Place p, int one, int other, int turns) {
    One a = p.people.get(one);
    One b = p.people.get(other);
    if (turns == 0) return Math.abs(a.x - b.x) + Math.abs(a.y - b.y);
    boolean little = turns % 2 == 0;
    int best = play(p, one, other, turns - 1);
    for (int side = 0; side < 4; side++) {
      for (int fine : FINES) {
        Place then = p.twin();
        One mover = then.people.get(little ? one : other);
        mover.side = side;
        mover.owes = fine;
        if (then.walk(mover).isEmpty()) continue;
        int value = play(then, one, other, turns - 1);
        best = little ? Math.min(best, value) : Math.max(best, value);
      }
    }
    return best;
  }

  private int meet(int one, int other, int n) {
    if (!person(one) || !person(other) || one == other || !in(n, 0, 2)) return BAD;
    return play(town, one, other, 2 * n);
  }

  private int law(int word, int what) {
    if (!in(word, 1, 3) || !in(what, 0, 1)) return BAD;
    if (town == null) return NOT;
    Place p = town.twin();
    if (word != 2) p.court = !p.court;
    if (word != 1) p.over = !p.over;
    int cells = 0;
    for (int k = 0; k < 5; k++) cells += p.noon().size();
    return what == 0 ? cells : p.owed();
  }

  private int odds(int cell, int c, int what) {
    if (!cellIn(cell) || !in(c, 0, 10) || !in(what, 0, 1)) return BAD;
    long above = chances(town.twin(), debtors(), cell, c);
    long below = Math.round(Math.pow(10, debtors().size()));
    for (long d = below; d > 1; d--) {
      if (above % d == 0 && below % d == 0) {
        above /= d;
        below /= d;
      }
    }
    return (int) (what == 0 ? above : below);
  }

  private static long chances(Place p, List<Integer> open, int cell, int c) {
    if (open.isEmpty()) return p.twin().noon().contains(cell) ? 1 : 0;
    List<Integer> rest = open.subList(1, open.size());
    Place pardoned = p.twin();
    pardoned.people.get(open.get(0)).owes = 0;
    return c * chances(pardoned, rest, cell, c) + (10 - c) * chances(p, rest, cell, c);
  }

  private int drawn(int n, int seed, int what) {
    if (!in(n, 0, 40) || !in(seed, 1, 999999) || !in(what, 0, 1)) return BAD;
    if (town == null) return NOT;
    Place p = town.twin();
    long x = seed;
    int cells = 0;
    for (int k = 0; k < n; k++) {
      x = (x * 16807) % 2147483647;
      One o = p.people.get((int) (x % p.people.size()));
      p.deed(o, (int) ((x >> 3) & 3));
      o.side = (int) ((x >> 5) & 3);
      cells += p.noon().size();
    }
    if (what == 0) return cells;
    int same = 0;
    for (int k = 0; k < p.people.size(); k++) if (p.people.get(k).cell() == town.people.get(k).cell()) same++;
    return same;
  }

  private int sheet(int sheet, int lane, int n) {
    if (!in(sheet, 0, 3) || !in(lane, 0, 3) || n > 24) return BAD;
    if (n < 0) return SIZE;
    rows[sheet] = new long[n];
    lanes[sheet] = lane;
    return n;
  }

  private int drop(int sheet) {
    if (!in(sheet, 0, 3)) return BAD;
    if (rows[sheet] == null) return NULL;
    int n = rows[sheet].length;
    rows[sheet] = null;
    return n;
  }

  private int span(int sheet, int lane, long i, long n) {
    if (!in(sheet, 0, 3) || !in(lane, 0, 3)) return BAD;
    if (rows[sheet] == null) return NULL;
    if (lanes[sheet] != lane) return CAST;
    return i < 0 || i + n > rows[sheet].length ? INDEX : 0;
  }

  private long item(int sheet, int lane, int i, long v) {
    int refused = span(sheet, lane, i, 1);
    if (refused != 0) return refused;
    int unused = 64 - (8 << lane);
    rows[sheet][i] = v << unused >> unused;
    return rows[sheet][i];
  }

  private int copy(int from, long i, int to, long j, long n) {
    if (!in(from, 0, 3) || !in(to, 0, 3)) return BAD;
    if (rows[from] == null || rows[to] == null) return NULL;
    if (lanes[from] != lanes[to]) return CAST;
    if (n < 0 || i < 0 || j < 0 || i + n > rows[from].length || j + n > rows[to].length) return INDEX;
    long[] taken = Arrays.copyOfRange(rows[from], (int) i, (int) (i + n));
    for (int k = 0; k < n; k++) rows[to][(int) j + k] = taken[k];
    return (int) n;
  }

  private int film(int one, int n, int sheet, int lane, int i) {
    if (!person(one) || !in(n, 1, 8)) return BAD;
    int refused = span(sheet, lane, i, n);
    if (refused != 0) return refused;
    List<Integer> cells = alone(one, town.people.get(one).owes, -1, '?');
    if (cells.size() - 1 < n) return NOT;
    for (int k = 0; k < n; k++) rows[sheet][i + k] = cells.get(k + 1);
    return n;
  }

  private boolean makes(List<Integer> cells, int sheet, int i, int n) {
    List<Long> marks = new ArrayList<>();
    for (int k = 0; k < n; k++) marks.add(rows[sheet][i + k]);
    List<Long> made = new ArrayList<>();
    for (int k = 1; k < cells.size(); k++) made.add((long) cells.get(k));
    return made.equals(marks);
  }

  private int marks(int sheet, int lane, int i, int n, ToIntFunction<Model> then) {
    if (!in(n, 1, 8)) return BAD;
    int refused = span(sheet, lane, i, n);
    return refused != 0 ? refused : then.applyAsInt(this);
  }

  private int leastDue(int one, int sheet, int i, int n) {
    for (int owed = 1; owed <= 99; owed++) if (makes(alone(one, owed, -1, '?'), sheet, i, n)) return owed;
    return NONE;
  }

  private int who(int sheet, int lane, int i, int n) {
    return marks(sheet, lane, i, n, m -> {
      int set = 0;
      for (int k = 0; town != null && k < town.people.size(); k++) if (leastDue(k, sheet, i, n) > 0) set |= 1 << k;
      return set;
    });
  }

  private int due(int one, int sheet, int lane, int i, int n) {
    return person(one) ? marks(sheet, lane, i, n, m -> leastDue(one, sheet, i, n)) : BAD;
  }

  private int sorts(int one, int sheet, int lane, int i, int n) {
    return person(one) ? marks(sheet, lane, i, n, m -> {
      int set = 0;
      for (int kind = 1; kind <= 5; kind++) {
        if (makes(alone(one, town.people.get(one).owes, -1, "?pcdeb".charAt(kind)), sheet, i, n)) set |= 1 << kind;
      }
      return set;
    }) : BAD;
  }

  private int count(int what) {
    if (!in(what, 0, 9)) return BAD;
    if (what == 7) return tape.length();
    if (town == null) return 0;
    int entered = town.people.stream().mapToInt(o -> o.entered).sum();
    int[] told = {town.people.size(), town.map[0].length, town.map.length, town.noon, town.owed(), entered,
      acts.size(), 0, town.court ? 1 : 0, town.over ? 1 : 0};
    return told[what];
  }
}
