/** A town whose wicked walk backwards at noon; ../shared/DOC.md numbers what it promises. */
public final class NoonPaces {
  public static final int BAD = -1, NOT = -2, FULL = -3, NONE = -4, NULL = -11, CAST = -12, INDEX = -13, SIZE = -14;

  private static final int FINE = 0;
  private static final int EDGE = 8, CELLS = 64, CROWD = 6, ACTS = 24, TAPE = 140, ITEMS = 24;
  private static final int MOST_OWED = 99, MOST_NOONS = 9999, MOST_MARKS = 8;
  private static final int STREET = 0, WALL = 1, WATER = 2, HILL = 3, DOOR = 4;
  private static final int CHILD = 2, DRUNK = 3, ELDER = 4, BLIND = 5, KINDS = 6;
  private static final int SIDES = 4, DEEDS = 4, LANES = 4, SHEETS = 4, IMAGES = 2;

  private static final int[] COSTS = {1, 0, 2, 2, 3};
  private static final int[] FINES = {3, 5, 9, 30};
  private static final int[] KIND_ABOVE = {-1, 0, 1, 1, 0, 4};

  private final Tape tape;
  private final Town now;
  private final Past past;
  private final Town[] images;
  private final Sheet[] sheets;
  private final Walk walk;
  private final Seer seer;

  public NoonPaces() {
    tape = new Tape();
    seer = new Seer();
    now = seer.now;
    past = new Past();
    images = new Town[] {new Town(), new Town()};
    sheets = new Sheet[] {new Sheet(), new Sheet(), new Sheet(), new Sheet()};
    walk = new Walk();
  }

  // ---- 1 what is told

  public int feed(int letter) {
    if (letter < 0 || letter > 255) return BAD;
    return tape.add(letter) ? tape.length : FULL;
  }

  public int town() {
    boolean whole = tape.readTown();
    tape.length = 0;
    if (!whole) return -100 - tape.place;
    now.become(tape.read);
    past.forget();
    return now.people;
  }

  public int person(int one, int what) {
    if (!now.has(one) || what < 0 || what > 4 + DEEDS) return BAD;
    switch (what) {
      case 0: return now.kind[one];
      case 1: return now.at[one];
      case 2: return now.facing[one];
      case 3: return now.owes[one];
      case 4: return now.entered[one];
      default: return now.done[one * DEEDS + what - 5];
    }
  }

  public int cell(int cell) {
    return now.inside(cell) ? now.ground[cell] : BAD;
  }

  public int on(int cell) {
    return now.inside(cell) ? now.standing(cell) : BAD;
  }

  public int as(int one, int kind) {
    if (!now.has(one) || kind < 0 || kind >= KINDS) return BAD;
    return isUnder(now.kind[one], kind) ? one : CAST;
  }

  // ---- 2 acts

  public int noon() {
    if (now.people == 0) return NOT;
    if (now.noons >= MOST_NOONS) return FULL;
    past.keep(now);
    return now.passNoon(walk);
  }

  public int deed(int one, int deed) {
    if (!now.has(one) || deed < 0 || deed >= DEEDS) return BAD;
    past.keep(now);
    now.commit(one, deed);
    return now.owes[one];
  }

  public int look(int one, int side) {
    if (!now.has(one) || side < 0 || side >= SIDES) return BAD;
    int before = now.facing[one];
    if (before == side) return NOT;
    past.keep(now);
    now.facing[one] = side;
    return before;
  }

  public int build(int cell, int up) {
    if (!now.inside(cell) || up < 0 || up > 1) return BAD;
    int before = now.ground[cell];
    int then = up == 1 ? WALL : STREET;
    if (before == then) return NOT;
    if (then == WALL && now.standing(cell) != NONE) return NOT;
    past.keep(now);
    now.ground[cell] = then;
    return before;
  }

  public int undo() {
    if (past.size == 0) return NONE;
    past.takeBack(now);
    return past.size;
  }

  public int image(int k) {
    if (k < 0 || k >= IMAGES) return BAD;
    if (now.people == 0) return NOT;
    images[k].become(now);
    return now.noons;
  }

  public int restore(int k) {
    if (k < 0 || k >= IMAGES) return BAD;
    if (images[k].people == 0) return NOT;
    now.become(images[k]);
    past.forget();
    return now.noons;
  }

  // ---- 3 foretold

  public int ends(int one, int n) {
    if (!now.has(one) || !isOwable(n)) return BAD;
    return seer.endOf(one, now.facing[one], n);
  }

  public int steps(int one, int n) {
    if (!now.has(one) || !isOwable(n)) return BAD;
    walk.trace(now, one, now.kind[one], now.facing[one], n);
    return walk.length;
  }

  public int later(int one, int n) {
    if (!now.has(one) || n < 0 || n > 20) return BAD;
    return seer.cellBehind(one, n);
  }

  public int barred() {
    return now.people == 0 ? NOT : seer.barredNow();
  }

  public int judge(int one, int cell) {
    if (!now.has(one) || !now.inside(cell)) return BAD;
    return seer.sentence(one, now.facing[one], cell);
  }

  public int sides(int one, int cell) {
    if (!now.has(one) || !now.inside(cell)) return BAD;
    return seer.sidesTo(one, cell);
  }

  public int crime(int one, int cell, int what) {
    if (!now.has(one) || !now.inside(cell) || what < 0 || what > 1) return BAD;
    return seer.leastCrime(one, cell, what);
  }

  public int order(int k) {
    if (k < -1) return BAD;
    if (now.people == 0) return NOT;
    return seer.bestOrder(k);
  }

  public int guard(int cell, int what) {
    if (!now.inside(cell) || what < 0 || what > 2) return BAD;
    return seer.fewestWalls(cell, what);
  }

  public int meet(int one, int other, int n) {
    if (!now.has(one) || !now.has(other) || one == other || n < 0 || n > 2) return BAD;
    return seer.meeting(one, other, n);
  }

  public int law(int word, int what) {
    if (word < 1 || word > 3 || what < 0 || what > 1) return BAD;
    if (now.people == 0) return NOT;
    return seer.underLaw(word, what);
  }

  public int odds(int cell, int c, int what) {
    if (!now.inside(cell) || c < 0 || c > 10 || what < 0 || what > 1) return BAD;
    return seer.oddsOf(cell, c, what);
  }

  public int drawn(int n, int seed, int what) {
    if (n < 0 || n > 40 || seed < 1 || seed > 999999 || what < 0 || what > 1) return BAD;
    if (now.people == 0) return NOT;
    return seer.years(n, seed, what);
  }

  // ---- 4 sheets

  public int sheet(int sheet, int lane, int n) {
    if (!isSheet(sheet) || !isLane(lane) || n > ITEMS) return BAD;
    if (n < 0) return SIZE;
    sheets[sheet].renew(lane, n);
    return n;
  }

  public int drop(int sheet) {
    if (!isSheet(sheet)) return BAD;
    if (sheets[sheet].isNothing()) return NULL;
    int had = sheets[sheet].size;
    sheets[sheet].clear();
    return had;
  }

  public long item(int sheet, int lane, int i, long v) {
    int refused = refuseSpan(sheet, lane, i, 1);
    return refused == FINE ? sheets[sheet].put(i, v) : refused;
  }

  public int copy(int from, int i, int to, int j, int n) {
    if (!isSheet(from) || !isSheet(to)) return BAD;
    Sheet source = sheets[from];
    Sheet target = sheets[to];
    if (source.isNothing() || target.isNothing()) return NULL;
    if (source.lane != target.lane) return CAST;
    if (!source.holds(i, n) || !target.holds(j, n)) return INDEX;
    System.arraycopy(source.items, i, target.items, j, n);
    return n;
  }

  public int film(int one, int n, int sheet, int lane, int i) {
    if (!now.has(one)) return BAD;
    int refused = refuseMarks(sheet, lane, i, n);
    if (refused != FINE) return refused;
    walk.trace(now, one, now.kind[one], now.facing[one], now.owes[one]);
    if (walk.length < n) return NOT;
    for (int k = 0; k < n; k++) sheets[sheet].put(i + k, walk.path[k]);
    return n;
  }

  public int who(int sheet, int lane, int i, int n) {
    int refused = refuseMarks(sheet, lane, i, n);
    if (refused != FINE) return refused;
    int set = 0;
    for (int one = 0; one < now.people; one++) {
      if (leastDue(one, sheets[sheet], i, n) != NONE) set |= 1 << one;
    }
    return set;
  }

  public int due(int one, int sheet, int lane, int i, int n) {
    if (!now.has(one)) return BAD;
    int refused = refuseMarks(sheet, lane, i, n);
    return refused == FINE ? leastDue(one, sheets[sheet], i, n) : refused;
  }

  public int sorts(int one, int sheet, int lane, int i, int n) {
    if (!now.has(one)) return BAD;
    int refused = refuseMarks(sheet, lane, i, n);
    if (refused != FINE) return refused;
    int set = 0;
    for (int kind = 1; kind < KINDS; kind++) {
      walk.trace(now, one, kind, now.facing[one], now.owes[one]);
      if (walk.leaves(sheets[sheet], i, n)) set |= 1 << kind;
    }
    return set;
  }

  public int count(int what) {
    switch (what) {
      case 0: return now.people;
      case 1: return now.columns;
      case 2: return now.rows;
      case 3: return now.noons;
      case 4: return now.owedInAll();
      case 5: return now.enteredInAll();
      case 6: return past.size;
      case 7: return tape.length;
      case 8: return now.court;
      case 9: return now.over;
      default: return BAD;
    }
  }

  // ---- what several calls ask

  private static boolean isOwable(int n) {
    return n >= 0 && n <= MOST_OWED;
  }

  private static boolean isSheet(int sheet) {
    return sheet >= 0 && sheet < SHEETS;
  }

  private static boolean isLane(int lane) {
    return lane >= 0 && lane < LANES;
  }

  private static boolean isUnder(int kind, int wanted) {
    int k = kind;
    for (int level = 0; level < KINDS && k >= 0; level++) {
      if (k == wanted) return true;
      k = KIND_ABOVE[k];
    }
    return false;
  }

  private int refuseMarks(int sheet, int lane, int i, int n) {
    if (n < 1 || n > MOST_MARKS) return BAD;
    return refuseSpan(sheet, lane, i, n);
  }

  private int refuseSpan(int sheet, int lane, int i, int n) {
    if (!isSheet(sheet) || !isLane(lane)) return BAD;
    if (sheets[sheet].isNothing()) return NULL;
    if (sheets[sheet].lane != lane) return CAST;
    return sheets[sheet].holds(i, n) ? FINE : INDEX;
  }

  private int leastDue(int one, Sheet marks, int i, int n) {
    for (int owed = 1; owed <= MOST_OWED; owed++) {
      walk.trace(now, one, now.kind[one], now.facing[one], owed);
      if (walk.leaves(marks, i, n)) return owed;
    }
    return NONE;
  }

  /** The bytes that wait to be read as a town; a reading that stops short does so at the fault. */
  private static final class Tape {
    private final int[] bytes = new int[TAPE];
    final Town read = new Town();
    int length;
    int place;

    boolean add(int letter) {
      if (length >= TAPE) return false;
      bytes[length] = letter;
      length++;
      return true;
    }

    boolean readTown() {
      place = 0;
      // nothing ever happens in the town that is read, so its noons, deeds and walks are none
      read.people = 0;
      return readLaw() && readRows() && readPeople();
    }

    private boolean readLaw() {
      if (!take('l')) return false;
      int court = takeOneOf("ct");
      if (court < 0) return false;
      int over = takeOneOf("fo");
      if (over < 0) return false;
      read.court = court;
      read.over = over;
      return take(';');
    }

    private boolean readRows() {
      for (int row = 0; row < EDGE; row++) {
        int most = row == 0 ? EDGE : read.columns;
        int wide = readRow(row, most);
        if (wide == 0 || row > 0 && wide < most) return false;
        read.columns = wide;
        read.rows = row + 1;
        if (take(';')) return true;
        if (row == EDGE - 1 || !take('/')) return false;
      }
      return false;
    }

    private int readRow(int row, int most) {
      for (int column = 0; column < most; column++) {
        int ground = takeOneOf(".#~^+");
        if (ground < 0) return column;
        read.ground[row * EDGE + column] = ground;
      }
      return most;
    }

    private boolean readPeople() {
      for (int one = 0; one < CROWD; one++) {
        if (!readPerson(one)) return false;
        read.people = one + 1;
        if (place >= length) return true;
      }
      return false;
    }

    private boolean readPerson(int one) {
      int sort = takeOneOf("pcdeb");
      if (sort < 0) return false;
      int cell = takeCell();
      if (cell < 0) return false;
      int side = takeOneOf("nesw");
      if (side < 0) return false;
      int owes = takeOwes();
      if (owes < 0) return false;
      read.kind[one] = sort + 1;
      read.at[one] = cell;
      read.facing[one] = side;
      read.owes[one] = owes;
      return take(';');
    }

    private int takeCell() {
      int start = place;
      int column = takeFigure(read.columns);
      if (column < 0) return -1;
      int row = takeFigure(read.rows);
      if (row < 0) return -1;
      int cell = row * EDGE + column;
      if (read.ground[cell] != WALL && read.standing(cell) == NONE) return cell;
      place = start;
      return -1;
    }

    private int takeOwes() {
      int start = place;
      int first = takeFigure(10);
      if (first < 0) return -1;
      int second = takeFigure(10);
      if (second < 0) return first;
      if (takeFigure(10) < 0) return 10 * first + second;
      place = start;
      return -1;
    }

    private int takeFigure(int limit) {
      int figure = nextByte() - '0';
      if (figure < 0 || figure > 9 || figure >= limit) return -1;
      place++;
      return figure;
    }

    private int takeOneOf(String letters) {
      for (int k = 0; k < letters.length(); k++) {
        if (take(letters.charAt(k))) return k;
      }
      return -1;
    }

    private boolean take(char letter) {
      if (nextByte() != letter) return false;
      place++;
      return true;
    }

    private int nextByte() {
      return place < length ? bytes[place] : -1;
    }
  }

  /** All that a noon, a deed, a look or a building can change; without people there is no town. */
  private static final class Town {
    int columns;
    int rows;
    int people;
    int noons;
    int court;
    int over;
    final int[] ground = new int[CELLS];
    final int[] kind = new int[CROWD];
    final int[] at = new int[CROWD];
    final int[] facing = new int[CROWD];
    final int[] owes = new int[CROWD];
    final int[] entered = new int[CROWD];
    final int[] done = new int[CROWD * DEEDS];

    void become(Town other) {
      columns = other.columns;
      rows = other.rows;
      people = other.people;
      noons = other.noons;
      court = other.court;
      over = other.over;
      System.arraycopy(other.ground, 0, ground, 0, CELLS);
      System.arraycopy(other.kind, 0, kind, 0, CROWD);
      System.arraycopy(other.at, 0, at, 0, CROWD);
      System.arraycopy(other.facing, 0, facing, 0, CROWD);
      System.arraycopy(other.owes, 0, owes, 0, CROWD);
      System.arraycopy(other.entered, 0, entered, 0, CROWD);
      System.arraycopy(other.done, 0, done, 0, CROWD * DEEDS);
    }

    boolean has(int one) {
      return one >= 0 && one < people;
    }

    boolean inside(int cell) {
      return cell >= 0 && cell < CELLS && cell / EDGE < rows && cell % EDGE < columns;
    }

    int standing(int cell) {
      for (int one = 0; one < people; one++) {
        if (at[one] == cell) return one;
      }
      return NONE;
    }

    /** The cell next to one inside the town, or below 0 where the town ends. */
    int beside(int cell, int side) {
      int column = cell % EDGE;
      int row = cell / EDGE;
      switch (side) {
        case 0: return row > 0 ? cell - EDGE : -1;
        case 1: return column + 1 < columns ? cell + 1 : -1;
        case 2: return row + 1 < rows ? cell + EDGE : -1;
        default: return column > 0 ? cell - 1 : -1;
      }
    }

    void commit(int one, int deed) {
      int fine = FINES[deed] + done[one * DEEDS + deed];
      owes[one] = Math.min(MOST_OWED, owes[one] + fine);
      done[one * DEEDS + deed]++;
    }

    /** Brings one where a traced walk ends, its doors open behind him. */
    void follow(int one, Walk walk) {
      for (int k = 0; k < walk.length; k++) {
        if (ground[walk.path[k]] == DOOR) ground[walk.path[k]] = STREET;
      }
      at[one] = walk.end;
    }

    void walkAtNoon(int one, Walk walk) {
      walk.trace(this, one, kind[one], facing[one], owes[one]);
      follow(one, walk);
      entered[one] += walk.length;
      owes[one] = over == 1 ? walk.left : 0;
      if (kind[one] == BLIND) facing[one] = (facing[one] + 1) % SIDES;
    }

    int passNoon(Walk walk) {
      int cells = 0;
      for (int one = 0; one < people; one++) {
        if (owes[one] > 0) {
          walkAtNoon(one, walk);
          cells += walk.length;
        }
      }
      noons++;
      return cells;
    }

    int owedInAll() {
      int sum = 0;
      for (int one = 0; one < people; one++) sum += owes[one];
      return sum;
    }

    int enteredInAll() {
      int sum = 0;
      for (int one = 0; one < people; one++) sum += entered[one];
      return sum;
    }
  }

  /** One walk, found without changing the town in which it goes. */
  private static final class Walk {
    final int[] path = new int[EDGE];
    int length;
    int end;
    int left;
    int toward;

    void trace(Town town, int one, int kind, int facing, int owed) {
      int looks = town.court == 1 ? 0 : facing;
      toward = (looks + (kind == DRUNK ? 3 : 2)) % SIDES;
      left = kind == CHILD ? owed / 2 : owed;
      length = 0;
      end = town.at[one];
      boolean old = isUnder(kind, ELDER);
      for (int k = 0; k < EDGE; k++) {
        int next = town.beside(end, toward);
        if (next < 0 || town.standing(next) != NONE) return;
        int ground = town.ground[next];
        if (ground == WALL || old && (ground == WATER || ground == HILL)) return;
        if (COSTS[ground] > left) return;
        left -= COSTS[ground];
        path[k] = next;
        length = k + 1;
        end = next;
      }
    }

    /** Whether its cells, all of them, are the n items from i on. */
    boolean leaves(Sheet marks, int i, int n) {
      if (length != n) return false;
      for (int k = 0; k < n; k++) {
        if (marks.items[i + k] != path[k]) return false;
      }
      return true;
    }

    long trodden() {
      long set = 0;
      for (int k = 0; k < length; k++) set |= 1L << path[k];
      return set;
    }
  }

  /** The town as it was ahead of each of the latest acts, in a ring. */
  private static final class Past {
    private final Town[] kept = new Town[ACTS];
    private int next;
    int size;

    Past() {
      for (int k = 0; k < ACTS; k++) kept[k] = new Town();
    }

    void keep(Town town) {
      kept[next].become(town);
      next = (next + 1) % ACTS;
      if (size < ACTS) size++;
    }

    void takeBack(Town town) {
      next = (next + ACTS - 1) % ACTS;
      size--;
      town.become(kept[next]);
    }

    void forget() {
      size = 0;
    }
  }

  /** A row of a lane, or nothing; items of every lane are held as longs, cut to the lane. */
  private static final class Sheet {
    private static final int NOTHING = -1;
    final long[] items = new long[ITEMS];
    int lane = NOTHING;
    int size;

    boolean isNothing() {
      return lane == NOTHING;
    }

    void renew(int newLane, int n) {
      lane = newLane;
      size = n;
      for (int k = 0; k < ITEMS; k++) items[k] = 0;
    }

    void clear() {
      lane = NOTHING;
      size = 0;
    }

    boolean holds(int i, int n) {
      return n >= 0 && i >= 0 && i <= size - n;
    }

    long put(int i, long v) {
      items[i] = cut(v);
      return items[i];
    }

    private long cut(long v) {
      switch (lane) {
        case 0: return (byte) v;
        case 1: return (short) v;
        case 2: return (int) v;
        default: return v;
      }
    }
  }

  /** Foretells what becomes of the town, on towns beside it, so that it stays as it is. */
  private static final class Seer {
    private static final int WALKS = SIDES * DEEDS, PLAYED = 5, ALL_ORDERS = 720, FAR = 1000000;

    final Town now = new Town();
    private final Town trial = new Town();
    private final Walk walk = new Walk();
    private final Town[] played = new Town[PLAYED];
    private final int[] row = new int[CROWD];
    private final int[] bestRow = new int[CROWD];
    private final int[] landings = new int[CELLS * WALKS];
    private final int[] tolls = new int[CELLS];

    Seer() {
      for (int k = 0; k < PLAYED; k++) played[k] = new Town();
    }

    int endOf(int one, int facing, int owed) {
      walk.trace(now, one, now.kind[one], facing, owed);
      return walk.end;
    }

    int cellBehind(int one, int n) {
      trial.become(now);
      for (int k = 0; k < n; k++) trial.passNoon(walk);
      return trial.at[one];
    }

    int barredNow() {
      trial.become(now);
      int set = 0;
      for (int one = 0; one < trial.people; one++) {
        if (trial.owes[one] > 0) {
          trial.walkAtNoon(one, walk);
          if (walk.left > 0 && isTaken(trial.beside(walk.end, walk.toward))) set |= 1 << one;
        }
      }
      return set;
    }

    private boolean isTaken(int cell) {
      return cell >= 0 && trial.standing(cell) != NONE;
    }

    int sentence(int one, int facing, int cell) {
      for (int owed = 0; owed <= MOST_OWED; owed++) {
        if (endOf(one, facing, owed) == cell) return owed;
      }
      return NONE;
    }

    int sidesTo(int one, int cell) {
      int set = 0;
      for (int side = 0; side < SIDES; side++) {
        if (sentence(one, side, cell) != NONE) set |= 1 << side;
      }
      return set;
    }

    // ---- crime

    int leastCrime(int one, int goal, int what) {
      int start = now.at[one];
      if (start == goal) return what == 0 ? 0 : NONE;
      findLandings(one);
      findTolls(goal);
      if (tolls[start] >= FAR) return NONE;
      return what == 0 ? tolls[start] : firstWalk(start);
    }

    /** Where each walk ends, from each cell on which he could stand; from others he stays. */
    private void findLandings(int one) {
      trial.become(now);
      for (int cell = 0; cell < CELLS; cell++) {
        boolean free = now.inside(cell) && now.ground[cell] != WALL
            && (now.standing(cell) == NONE || now.standing(cell) == one);
        for (int k = 0; k < WALKS; k++) {
          landings[cell * WALKS + k] = free ? landing(one, cell, k) : cell;
        }
      }
    }

    private int landing(int one, int from, int k) {
      trial.at[one] = from;
      walk.trace(trial, one, trial.kind[one], k / DEEDS, FINES[k % DEEDS]);
      return walk.end;
    }

    /** The least that leads from each cell to the goal: shortened until nothing gets shorter. */
    private void findTolls(int goal) {
      for (int cell = 0; cell < CELLS; cell++) tolls[cell] = FAR;
      tolls[goal] = 0;
      boolean shorter = true;
      for (int round = 0; round < CELLS && shorter; round++) {
        shorter = false;
        for (int k = 0; k < CELLS * WALKS; k++) {
          int toll = tollBy(k);
          if (toll < tolls[k / WALKS]) {
            tolls[k / WALKS] = toll;
            shorter = true;
          }
        }
      }
    }

    private int tollBy(int k) {
      return FINES[k % DEEDS] + tolls[landings[k]];
    }

    private int firstWalk(int start) {
      for (int k = 0; k < WALKS; k++) {
        if (tollBy(start * WALKS + k) == tolls[start]) return 10 * (k / DEEDS) + k % DEEDS;
      }
      return NONE;
    }

    // ---- order

    int bestOrder(int k) {
      int size = listDebtors();
      int best = -1;
      boolean more = true;
      for (int turn = 0; turn < ALL_ORDERS && more; turn++) {
        int cells = enteredInOrder(size);
        if (cells > best) {
          best = cells;
          System.arraycopy(row, 0, bestRow, 0, CROWD);
        }
        more = nextOrder(size);
      }
      if (k < 0) return best;
      return k < size ? bestRow[k] : NONE;
    }

    /** Puts those who owe into the row, by numbers. */
    private int listDebtors() {
      int size = 0;
      for (int one = 0; one < now.people; one++) {
        if (now.owes[one] > 0) {
          row[size] = one;
          size++;
        }
      }
      return size;
    }

    private int enteredInOrder(int size) {
      trial.become(now);
      int cells = 0;
      for (int k = 0; k < size; k++) {
        trial.walkAtNoon(row[k], walk);
        cells += walk.length;
      }
      return cells;
    }

    /** Makes the row the next one by numbers; false behind the last. */
    private boolean nextOrder(int size) {
      int i = size - 2;
      while (i >= 0 && row[i] > row[i + 1]) i--;
      if (i < 0) return false;
      int j = size - 1;
      while (j > i && row[j] < row[i]) j--;
      swap(i, j);
      int low = i + 1;
      int high = size - 1;
      while (low < high) {
        swap(low, high);
        low++;
        high--;
      }
      return true;
    }

    private void swap(int i, int j) {
      int held = row[i];
      row[i] = row[j];
      row[j] = held;
    }

    // ---- guard

    int fewestWalls(int cell, int what) {
      long plain = troddenBehind(NONE, NONE);
      if (!isIn(plain, cell)) return what == 0 ? 0 : NONE;
      for (int a = 0; a < CELLS; a++) {
        if (!isIn(plain, a) || !mayBeBuilt(a, cell)) continue;
        if (!isIn(troddenBehind(a, NONE), cell)) return wallsTold(what, a, NONE);
      }
      for (int a = 0; a < CELLS; a++) {
        if (!mayBeBuilt(a, cell)) continue;
        // a wall where nobody enters without it bars nobody, so others need no trial
        long trodden = troddenBehind(a, NONE);
        for (int b = a + 1; b < CELLS; b++) {
          if (!isIn(trodden, b) || !mayBeBuilt(b, cell)) continue;
          if (!isIn(troddenBehind(a, b), cell)) return wallsTold(what, a, b);
        }
      }
      return NONE;
    }

    private static int wallsTold(int what, int a, int b) {
      if (what == 0) return b == NONE ? 1 : 2;
      return what == 1 ? a : b;
    }

    private static boolean isIn(long set, int cell) {
      return ((set >>> cell) & 1L) == 1L;
    }

    private boolean mayBeBuilt(int wall, int cell) {
      return wall != cell && now.inside(wall) && now.ground[wall] == STREET && now.standing(wall) == NONE;
    }

    private long troddenBehind(int a, int b) {
      trial.become(now);
      if (a != NONE) trial.ground[a] = WALL;
      if (b != NONE) trial.ground[b] = WALL;
      return troddenInTrial();
    }

    private long troddenInTrial() {
      long set = 0;
      for (int one = 0; one < trial.people; one++) {
        if (trial.owes[one] > 0) {
          trial.walkAtNoon(one, walk);
          set |= walk.trodden();
        }
      }
      return set;
    }

    // ---- meet

    int meeting(int one, int other, int n) {
      played[0].become(now);
      return play(this, 0, 2 * n, one, other);
    }

    private static int play(Seer seer, int turn, int turns, int one, int other) {
      Town here = seer.played[turn];
      if (turn >= turns || turn + 1 >= PLAYED) return apart(here.at[one], here.at[other]);
      Town then = seer.played[turn + 1];
      Walk walk = seer.walk;
      boolean near = turn % 2 == 0;
      int mover = near ? one : other;
      then.become(here);
      int best = play(seer, turn + 1, turns, one, other);
      int looks = here.court == 1 ? 1 : SIDES;
      for (int side = 0; side < looks; side++) {
        int gone = 0;
        for (int deed = 0; deed < DEEDS; deed++) {
          walk.trace(here, mover, here.kind[mover], side, FINES[deed]);
          // dearer deeds go no less far, and as far means just the same
          if (walk.length == gone) continue;
          gone = walk.length;
          then.become(here);
          then.follow(mover, walk);
          int value = play(seer, turn + 1, turns, one, other);
          best = near ? Math.min(best, value) : Math.max(best, value);
        }
      }
      return best;
    }

    private static int apart(int cell, int other) {
      return Math.abs(cell % EDGE - other % EDGE) + Math.abs(cell / EDGE - other / EDGE);
    }

    // ---- law, odds, years

    int underLaw(int word, int what) {
      trial.become(now);
      if ((word & 1) != 0) trial.court = 1 - trial.court;
      if ((word & 2) != 0) trial.over = 1 - trial.over;
      int cells = 0;
      for (int k = 0; k < 5; k++) cells += trial.passNoon(walk);
      return what == 0 ? cells : trial.owedInAll();
    }

    int oddsOf(int cell, int c, int what) {
      int size = listDebtors();
      int above = 0;
      for (int pardoned = 0; pardoned < 1 << size; pardoned++) {
        int weight = pardon(pardoned, size, c);
        if (weight > 0 && isIn(troddenInTrial(), cell)) above += weight;
      }
      int below = 1;
      for (int k = 0; k < size; k++) below *= 10;
      int divisor = commonDivisor(above, below);
      return what == 0 ? above / divisor : below / divisor;
    }

    /** Lays out the trial with these pardoned: by how many parts of all it is so. */
    private int pardon(int pardoned, int size, int c) {
      trial.become(now);
      int weight = 1;
      for (int k = 0; k < size; k++) {
        boolean free = ((pardoned >> k) & 1) == 1;
        if (free) trial.owes[row[k]] = 0;
        weight *= free ? c : 10 - c;
      }
      return weight;
    }

    /** Of a number from 0 on and one above 0; itself above 0. */
    private static int commonDivisor(int a, int b) {
      int rest = a;
      int divisor = b;
      for (int k = 0; k < 64 && rest > 0; k++) {
        int next = divisor % rest;
        divisor = rest;
        rest = next;
      }
      return divisor > 0 ? divisor : 1;
    }

    int years(int n, int seed, int what) {
      trial.become(now);
      long x = seed;
      int cells = 0;
      for (int k = 0; k < n && trial.people > 0; k++) {
        x = 16807L * x % 2147483647L;
        int one = (int) (x % trial.people);
        trial.commit(one, (int) (x / 8 % DEEDS));
        trial.facing[one] = (int) (x / 32 % SIDES);
        cells += trial.passNoon(walk);
      }
      return what == 0 ? cells : unmoved();
    }

    private int unmoved() {
      int same = 0;
      for (int one = 0; one < now.people; one++) {
        if (trial.at[one] == now.at[one]) same++;
      }
      return same;
    }
  }
}
