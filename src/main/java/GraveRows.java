/** A desk for a burial ground: what it must do stands in the document, as promises 1 to 39. */
public final class GraveRows {
  private static final int BEYOND = -100001;
  private static final int MISSING = -100002;
  private static final int SIZE = -100003;
  private static final int KIND = -100004;
  private static final int FULL = -100005;
  private static final int NONE = -100006;
  private static final int RING = -100007;
  private static final int LONG = -100008;
  private static final int NO_FINDING = 0;

  private static final int GRAVES = 10;
  private static final int KINDS = 4;
  private static final int ROBBED = 1;
  private static final int DOUBLE = 2;
  private static final int TREASURE = 3;
  private static final int FARTHEST = 99;
  private static final int GOODS = 12;
  private static final int ALL_GOODS = (1 << GOODS) - 1;
  private static final int FIRST_YEAR = -5000;
  private static final int LAST_YEAR = 5000;
  private static final int WAITING = 12;
  private static final int MORE_WERE_TOLD = -12;
  private static final int ORDERED = 8;
  private static final int MARKS = 6;
  private static final int HEAVIEST = 20;
  private static final int WEIGHT_AT_FIRST = 10;
  private static final int BOTH_WEIGHTS = 21;
  private static final int MANS = 0;
  private static final int WOMANS = 1;
  private static final int NEITHERS = 2;
  private static final int SHEETS = 4;
  private static final int NUMBERS = 12;

  private final Ground ground;
  private final Ground kept;
  private final Sheet[] sheets;
  private final RowSearch search;
  private final Borders borders;
  private boolean isKept;
  private int findings;

  public GraveRows() {
    ground = new Ground();
    kept = new Ground();
    sheets = new Sheet[SHEETS];
    for (int s = 0; s < SHEETS; s++) {
      sheets[s] = new Sheet();
    }
    search = new RowSearch();
    borders = new Borders();
  }

  // ---- graves

  public int grave(int kind, int x, int y) {
    if (!isKind(kind) || !isDistance(x) || !isDistance(y)) {
      return finding(BEYOND);
    }
    if (ground.size >= GRAVES) {
      return finding(FULL);
    }
    return ground.open(kind, x, y);
  }

  public int as(int grave, int kind) {
    if (!ground.holds(grave) || !isKind(kind)) {
      return finding(BEYOND);
    }
    if (!ground.graves[grave].isOfKind(kind)) {
      return finding(KIND);
    }
    return grave;
  }

  public int goods(int grave, int set) {
    if (!ground.holds(grave) || set < 0 || set > ALL_GOODS) {
      return finding(BEYOND);
    }
    int before = ground.graves[grave].goods;
    ground.graves[grave].goods = set;
    return before;
  }

  public int of(int grave, int what) {
    if (!ground.holds(grave)) {
      return finding(BEYOND);
    }
    Grave told = ground.graves[grave];
    switch (what) {
      case 0: return told.kind;
      case 1: return told.x;
      case 2: return told.y;
      case 3: return told.goods;
      case 4: return told.from;
      case 5: return told.to;
      case 6: return Integer.bitCount(told.cuts);
      case 7: return Integer.bitCount(ground.cuttersOf(grave));
      default: return finding(BEYOND);
    }
  }

  public int span(int grave, int from, int to) {
    if (!ground.holds(grave) || !isYear(from) || !isYear(to)) {
      return finding(BEYOND);
    }
    if (from > to) {
      return finding(SIZE);
    }
    ground.graves[grave].from = from;
    ground.graves[grave].to = to;
    return 1;
  }

  public int coin(int grave, int year) {
    if (!ground.holds(grave) || !isYear(year)) {
      return finding(BEYOND);
    }
    Grave treasure = ground.graves[grave];
    if (!treasure.isOfKind(TREASURE)) {
      return finding(KIND);
    }
    if (year > treasure.to) {
      return finding(SIZE);
    }
    treasure.from = Math.max(treasure.from, year);
    return treasure.from;
  }

  public int cut(int grave, int other, boolean on) {
    if (!ground.holds(grave) || !ground.holds(other)) {
      return finding(BEYOND);
    }
    if (grave == other) {
      return finding(SIZE);
    }
    if (on && isIn(ground.earlierThan(other), grave)) {
      return finding(RING);
    }
    return ground.setCut(grave, other, on) ? 1 : 0;
  }

  public int later(int grave, int other) {
    if (!ground.holds(grave) || !ground.holds(other)) {
      return finding(BEYOND);
    }
    return isIn(ground.earlierThan(grave), other) ? 1 : 0;
  }

  public int fill() {
    if (ground.size == 0) {
      return finding(NONE);
    }
    ground.closeLast();
    return ground.size;
  }

  // ---- sheets

  public int sheet(int s, int bits, int n) {
    if (!isSheet(s) || !isWidth(bits)) {
      return finding(BEYOND);
    }
    if (n < 0) {
      return finding(SIZE);
    }
    if (n > NUMBERS) {
      return finding(BEYOND);
    }
    sheets[s].become(bits, n);
    return sheets[s].length;
  }

  public int put(int s, int i, int v) {
    if (!isSheet(s)) {
      return finding(BEYOND);
    }
    if (sheets[s].isMissing()) {
      return finding(MISSING);
    }
    if (i < 0 || i >= sheets[s].length) {
      return finding(BEYOND);
    }
    sheets[s].write(i, v);
    return 0;
  }

  public int copy(int s, int from, int t, int to, int n) {
    if (!isSheet(s) || !isSheet(t)) {
      return finding(BEYOND);
    }
    Sheet source = sheets[s];
    Sheet target = sheets[t];
    if (source.isMissing() || target.isMissing()) {
      return finding(MISSING);
    }
    if (source.bits != target.bits) {
      return finding(KIND);
    }
    if (!source.hasStretch(from, n) || !target.hasStretch(to, n)) {
      return finding(BEYOND);
    }
    System.arraycopy(source.numbers, from, target.numbers, to, n);
    return n;
  }

  public int read(int grave, int s) {
    if (!ground.holds(grave) || !isSheet(s)) {
      return finding(BEYOND);
    }
    if (sheets[s].isMissing()) {
      return finding(MISSING);
    }
    Grave reader = ground.graves[grave];
    reader.goods = sheets[s].goodsReadInto(reader.goods);
    return Integer.bitCount(reader.goods);
  }

  // ---- orders

  public int order() {
    int hindrance = orderHindrance();
    if (hindrance != NO_FINDING) {
      return finding(hindrance);
    }
    search.solve(ground, ALL_GOODS);
    return search.leastCost();
  }

  public int at(int place) {
    int hindrance = orderHindrance();
    if (hindrance != NO_FINDING) {
      return finding(hindrance);
    }
    if (place < 0 || place >= ground.size) {
      return finding(BEYOND);
    }
    search.solve(ground, ALL_GOODS);
    return search.row[place];
  }

  public int holes(int good) {
    if (!isGood(good)) {
      return finding(BEYOND);
    }
    int hindrance = orderHindrance();
    if (hindrance != NO_FINDING) {
      return finding(hindrance);
    }
    search.solve(ground, ALL_GOODS);
    return search.holesOf(good);
  }

  public int good(int good, boolean last) {
    if (!isGood(good)) {
      return finding(BEYOND);
    }
    if (ground.havers(good) == 0) {
      return finding(NONE);
    }
    int hindrance = orderHindrance();
    if (hindrance != NO_FINDING) {
      return finding(hindrance);
    }
    search.solve(ground, ALL_GOODS);
    return last ? search.lastPlaceOf(good) : search.firstPlaceOf(good);
  }

  public int tell(int v) {
    if (ground.waits >= WAITING) {
      return finding(FULL);
    }
    ground.waiting[ground.waits] = v;
    ground.waits++;
    return ground.waits;
  }

  public int check() {
    int count = ground.waits;
    ground.waits = 0;
    if (ground.size == 0) {
      return finding(NONE);
    }
    int ahead = 0;
    for (int place = 0; place < ground.size; place++) {
      if (!ground.fitsBehind(ahead, place, count)) {
        return -1 - place;
      }
      ahead |= 1 << ground.waiting[place];
    }
    if (count > ground.size) {
      return MORE_WERE_TOLD;
    }
    return ground.costOfWaiting();
  }

  public int without(int good) {
    if (!isGood(good)) {
      return finding(BEYOND);
    }
    int hindrance = orderHindrance();
    if (hindrance != NO_FINDING) {
      return finding(hindrance);
    }
    search.solve(ground, ALL_GOODS & ~(1 << good));
    return search.leastCost();
  }

  public int ways() {
    int hindrance = orderHindrance();
    if (hindrance != NO_FINDING) {
      return finding(hindrance);
    }
    search.solve(ground, ALL_GOODS);
    return search.leastWays();
  }

  public int stretches(int k) {
    int hindrance = stretchHindrance(k);
    if (hindrance != NO_FINDING) {
      return finding(hindrance);
    }
    search.solve(ground, ALL_GOODS);
    borders.choose(search, k);
    return borders.total;
  }

  public int border(int k, int i) {
    int hindrance = stretchHindrance(k);
    if (hindrance != NO_FINDING) {
      return finding(hindrance);
    }
    if (i < 0 || i >= k) {
      return finding(BEYOND);
    }
    search.solve(ground, ALL_GOODS);
    borders.choose(search, k);
    return borders.beginOf(i);
  }

  // ---- years

  public int year(int grave, boolean latest) {
    if (!ground.holds(grave)) {
      return finding(BEYOND);
    }
    return latest ? ground.latestOf(grave) : ground.earliestOf(grave);
  }

  public int wrong() {
    for (int g = 0; g < ground.size; g++) {
      if (ground.earliestOf(g) > ground.latestOf(g)) {
        return g;
      }
    }
    return -1;
  }

  public int in(int year) {
    if (!isYear(year)) {
      return finding(BEYOND);
    }
    int count = 0;
    for (int g = 0; g < ground.size; g++) {
      if (ground.earliestOf(g) <= year && year <= ground.latestOf(g)) {
        count++;
      }
    }
    return count;
  }

  public int used(int good, boolean latest) {
    if (!isGood(good)) {
      return finding(BEYOND);
    }
    int havers = ground.havers(good);
    if (havers == 0) {
      return finding(NONE);
    }
    return latest ? ground.greatestLatest(havers) : ground.leastEarliest(havers);
  }

  // ---- places, likeness, bones

  public int family(int grave, int distance) {
    if (!ground.holds(grave) || !isDistance(distance)) {
      return finding(BEYOND);
    }
    return ground.familyOf(grave, distance);
  }

  public int families(int distance) {
    if (!isDistance(distance)) {
      return finding(BEYOND);
    }
    int count = 0;
    for (int g = 0; g < ground.size; g++) {
      if (ground.familyOf(g, distance) == g) {
        count++;
      }
    }
    return count;
  }

  public int like(int grave, int other, boolean below) {
    if (!ground.holds(grave) || !ground.holds(other)) {
      return finding(BEYOND);
    }
    int both = ground.sharedGoods(grave, other);
    int either = ground.joinedGoods(grave, other);
    int divisor = commonDivisor(both, either);
    return (below ? either : both) / divisor;
  }

  public int nearest(int grave) {
    if (!ground.holds(grave)) {
      return finding(BEYOND);
    }
    if (ground.size < 2) {
      return finding(NONE);
    }
    return ground.mostLike(grave);
  }

  public int mark(int grave, int mark, boolean man) {
    if (!ground.holds(grave) || !isMark(mark)) {
      return finding(BEYOND);
    }
    return ground.graves[grave].setMark(mark, man) ? 1 : 0;
  }

  public int weigh(int mark, boolean man, int v) {
    if (!isMark(mark) || v < 1 || v > HEAVIEST) {
      return finding(BEYOND);
    }
    int[] weights = ground.weightsFor(man);
    int before = weights[mark];
    weights[mark] = v;
    return before;
  }

  public long share(int grave, boolean man) {
    if (!ground.holds(grave)) {
      return finding(BEYOND);
    }
    if (ground.graves[grave].isOfKind(DOUBLE)) {
      return finding(KIND);
    }
    return ground.productOfMarks(grave, man);
  }

  public int people(int what) {
    if (what < MANS || what > NEITHERS) {
      return finding(BEYOND);
    }
    int count = 0;
    for (int g = 0; g < ground.size; g++) {
      if (ground.whose(g) == what) {
        count++;
      }
    }
    return count;
  }

  // ---- the whole

  public int keep() {
    kept.become(ground);
    isKept = true;
    return ground.size;
  }

  public int back() {
    if (!isKept) {
      return finding(NONE);
    }
    ground.become(kept);
    return ground.size;
  }

  public int told(int what) {
    switch (what) {
      case 0: return ground.size;
      case 1: return ground.countCuts();
      case 2: return findings;
      case 3: return ground.waits;
      default: return finding(BEYOND);
    }
  }

  private int finding(int number) {
    findings++;
    return number;
  }

  private int orderHindrance() {
    if (ground.size == 0) {
      return NONE;
    }
    return ground.size > ORDERED ? LONG : NO_FINDING;
  }

  private int stretchHindrance(int k) {
    int hindrance = orderHindrance();
    if (hindrance != NO_FINDING) {
      return hindrance;
    }
    return k < 1 || k > ground.size ? BEYOND : NO_FINDING;
  }

  private static boolean isKind(int kind) {
    return kind >= 0 && kind < KINDS;
  }

  private static boolean isDistance(int v) {
    return v >= 0 && v <= FARTHEST;
  }

  private static boolean isYear(int year) {
    return year >= FIRST_YEAR && year <= LAST_YEAR;
  }

  private static boolean isGood(int good) {
    return good >= 0 && good < GOODS;
  }

  private static boolean isMark(int mark) {
    return mark >= 0 && mark < MARKS;
  }

  private static boolean isSheet(int s) {
    return s >= 0 && s < SHEETS;
  }

  private static boolean isWidth(int bits) {
    return bits == 0 || bits == 8 || bits == 16 || bits == 32;
  }

  private static boolean isIn(int set, int i) {
    return (set >> i & 1) != 0;
  }

  /** At least 1, so that it may always divide. */
  private static int commonDivisor(int a, int b) {
    for (int d = b; d > 1; d--) {
      if (a % d == 0 && b % d == 0) {
        return d;
      }
    }
    return 1;
  }

  private static final class Grave {
    static final int[] KIND_ABOVE = {-1, 0, 0, 1};

    int kind;
    int x;
    int y;
    int goods;
    int from;
    int to;
    int cuts;
    int marksTold;
    int marksOfMan;

    void become(Grave other) {
      kind = other.kind;
      x = other.x;
      y = other.y;
      goods = other.goods;
      from = other.from;
      to = other.to;
      cuts = other.cuts;
      marksTold = other.marksTold;
      marksOfMan = other.marksOfMan;
    }

    void beginAs(int newKind, int newX, int newY) {
      kind = newKind;
      x = newX;
      y = newY;
      goods = 0;
      from = FIRST_YEAR;
      to = LAST_YEAR;
      cuts = 0;
      marksTold = 0;
      marksOfMan = 0;
    }

    boolean isOfKind(int wanted) {
      int k = kind;
      for (int step = 0; step < KINDS && k >= 0; step++) {
        if (k == wanted) {
          return true;
        }
        k = KIND_ABOVE[k];
      }
      return false;
    }

    /** The goods that it neither has nor MAY HAVE: only these can be holes at it. */
    int goodsSurelyLacked() {
      return isOfKind(ROBBED) ? 0 : ALL_GOODS & ~goods;
    }

    boolean isWithin(int distance, Grave other) {
      return Math.abs(x - other.x) <= distance && Math.abs(y - other.y) <= distance;
    }

    boolean setMark(int mark, boolean man) {
      int bit = 1 << mark;
      boolean isNew = (marksTold & bit) == 0;
      marksTold |= bit;
      marksOfMan = man ? marksOfMan | bit : marksOfMan & ~bit;
      return isNew;
    }
  }

  /** All that keep() keeps. Sets of graves are bits here: bit g for grave g. */
  private static final class Ground {
    final Grave[] graves = new Grave[GRAVES];
    final int[] weightsOfMan = new int[MARKS];
    final int[] weightsOfWoman = new int[MARKS];
    final int[] waiting = new int[WAITING];
    /** Used anew by each walk from grave to grave, so that no call makes a row. */
    final int[] steps = new int[GRAVES];
    int size;
    int waits;

    Ground() {
      for (int g = 0; g < GRAVES; g++) {
        graves[g] = new Grave();
      }
      for (int m = 0; m < MARKS; m++) {
        weightsOfMan[m] = WEIGHT_AT_FIRST;
        weightsOfWoman[m] = WEIGHT_AT_FIRST;
      }
    }

    void become(Ground other) {
      for (int g = 0; g < GRAVES; g++) {
        graves[g].become(other.graves[g]);
      }
      System.arraycopy(other.weightsOfMan, 0, weightsOfMan, 0, MARKS);
      System.arraycopy(other.weightsOfWoman, 0, weightsOfWoman, 0, MARKS);
      System.arraycopy(other.waiting, 0, waiting, 0, WAITING);
      size = other.size;
      waits = other.waits;
    }

    boolean holds(int grave) {
      return grave >= 0 && grave < size;
    }

    int open(int kind, int x, int y) {
      graves[size].beginAs(kind, x, y);
      size++;
      return size - 1;
    }

    void closeLast() {
      size--;
      for (int g = 0; g < size; g++) {
        graves[g].cuts &= ~(1 << size);
      }
    }

    boolean setCut(int grave, int other, boolean on) {
      int before = graves[grave].cuts;
      int bit = 1 << other;
      graves[grave].cuts = on ? before | bit : before & ~bit;
      return graves[grave].cuts != before;
    }

    int countCuts() {
      int count = 0;
      for (int g = 0; g < size; g++) {
        count += Integer.bitCount(graves[g].cuts);
      }
      return count;
    }

    int cuttersOf(int grave) {
      int cutters = 0;
      for (int g = 0; g < size; g++) {
        if (isIn(graves[g].cuts, grave)) {
          cutters |= 1 << g;
        }
      }
      return cutters;
    }

    int earlierThan(int grave) {
      for (int g = 0; g < size; g++) {
        steps[g] = graves[g].cuts;
      }
      return reachedFrom(steps[grave]);
    }

    int laterThan(int grave) {
      for (int g = 0; g < size; g++) {
        steps[g] = cuttersOf(g);
      }
      return reachedFrom(steps[grave]);
    }

    /** No walk needs more rounds than there are graves. */
    private int reachedFrom(int start) {
      int reached = start;
      for (int round = 0; round < size; round++) {
        int before = reached;
        for (int g = 0; g < size; g++) {
          if (isIn(reached, g)) {
            reached |= steps[g];
          }
        }
        if (reached == before) {
          break;
        }
      }
      return reached;
    }

    int earliestOf(int grave) {
      int years = earlierThan(grave) | 1 << grave;
      int earliest = FIRST_YEAR;
      for (int g = 0; g < size; g++) {
        if (isIn(years, g)) {
          earliest = Math.max(earliest, graves[g].from);
        }
      }
      return earliest;
    }

    int latestOf(int grave) {
      int years = laterThan(grave) | 1 << grave;
      int latest = LAST_YEAR;
      for (int g = 0; g < size; g++) {
        if (isIn(years, g)) {
          latest = Math.min(latest, graves[g].to);
        }
      }
      return latest;
    }

    int leastEarliest(int set) {
      int least = LAST_YEAR;
      for (int g = 0; g < size; g++) {
        if (isIn(set, g)) {
          least = Math.min(least, earliestOf(g));
        }
      }
      return least;
    }

    int greatestLatest(int set) {
      int greatest = FIRST_YEAR;
      for (int g = 0; g < size; g++) {
        if (isIn(set, g)) {
          greatest = Math.max(greatest, latestOf(g));
        }
      }
      return greatest;
    }

    int havers(int good) {
      int set = 0;
      for (int g = 0; g < size; g++) {
        if (isIn(graves[g].goods, good)) {
          set |= 1 << g;
        }
      }
      return set;
    }

    /**
     * Whether the number that waits for a place is a grave that may stand behind these. Its own CUTS
     * are enough to look at: those by more steps are ahead already, as each grave ahead did fit.
     */
    boolean fitsBehind(int ahead, int place, int count) {
      if (place >= count || !holds(waiting[place])) {
        return false;
      }
      int grave = waiting[place];
      return !isIn(ahead, grave) && (graves[grave].cuts & ~ahead) == 0;
    }

    /** Asked only where the numbers that waited fit at every place. */
    int costOfWaiting() {
      int cost = 0;
      int ahead = 0;
      for (int place = 0; place < size; place++) {
        Grave here = graves[waiting[place]];
        int behind = 0;
        for (int i = place + 1; i < size; i++) {
          behind |= graves[waiting[i]].goods;
        }
        cost += Integer.bitCount(ahead & behind & here.goodsSurelyLacked());
        ahead |= here.goods;
      }
      return cost;
    }

    int familyOf(int grave, int distance) {
      for (int g = 0; g < size; g++) {
        steps[g] = neighboursOf(g, distance);
      }
      int together = reachedFrom(1 << grave);
      for (int g = 0; g < grave; g++) {
        if (isIn(together, g)) {
          return g;
        }
      }
      return grave;
    }

    private int neighboursOf(int grave, int distance) {
      int near = 0;
      for (int g = 0; g < size; g++) {
        if (graves[grave].isWithin(distance, graves[g])) {
          near |= 1 << g;
        }
      }
      return near;
    }

    int sharedGoods(int grave, int other) {
      return Integer.bitCount(graves[grave].goods & graves[other].goods);
    }

    /** At least 1, as the likeness of two graves without goods is 0 by 1. */
    int joinedGoods(int grave, int other) {
      return Math.max(1, Integer.bitCount(graves[grave].goods | graves[other].goods));
    }

    int mostLike(int grave) {
      int most = -1;
      int mostShared = 0;
      int mostJoined = 1;
      for (int g = 0; g < size; g++) {
        if (g == grave) {
          continue;
        }
        int shared = sharedGoods(grave, g);
        int joined = joinedGoods(grave, g);
        if (most < 0 || shared * mostJoined > mostShared * joined) {
          most = g;
          mostShared = shared;
          mostJoined = joined;
        }
      }
      return most;
    }

    int[] weightsFor(boolean man) {
      return man ? weightsOfMan : weightsOfWoman;
    }

    long productOfMarks(int grave, boolean man) {
      Grave bones = graves[grave];
      int[] weights = weightsFor(man);
      long product = 1;
      for (int m = 0; m < MARKS; m++) {
        if (isIn(bones.marksTold, m)) {
          boolean agrees = isIn(bones.marksOfMan, m) == man;
          product *= agrees ? weights[m] : BOTH_WEIGHTS - weights[m];
        }
      }
      return product;
    }

    int whose(int grave) {
      if (graves[grave].isOfKind(DOUBLE)) {
        return NEITHERS;
      }
      long ofMan = productOfMarks(grave, true);
      long ofWoman = productOfMarks(grave, false);
      if (ofMan == ofWoman) {
        return NEITHERS;
      }
      return ofMan > ofWoman ? MANS : WOMANS;
    }
  }

  private static final class Sheet {
    final int[] numbers = new int[NUMBERS];
    int bits;
    int length;

    boolean isMissing() {
      return bits == 0;
    }

    void become(int newBits, int newLength) {
      bits = newBits;
      length = newBits == 0 ? 0 : newLength;
      for (int i = 0; i < NUMBERS; i++) {
        numbers[i] = 0;
      }
    }

    void write(int i, int v) {
      numbers[i] = bits == 32 ? v : v & (1 << bits) - 1;
    }

    boolean hasStretch(int from, int n) {
      return from >= 0 && n >= 0 && n <= length && from <= length - n;
    }

    int goodsReadInto(int goods) {
      int set = goods;
      for (int k = 0; k < length; k++) {
        set = numbers[k] != 0 ? set | 1 << k : set & ~(1 << k);
      }
      return set;
    }
  }

  /**
   * THE ORDER of up to 8 graves. The holes at a grave depend on nothing but the set of graves ahead
   * of it, so that each of the 256 sets is looked at once, not each of the 40320 orders.
   */
  private static final class RowSearch {
    static final int SETS = 1 << ORDERED;
    static final int NEVER = 1000000;

    final int[] goods = new int[ORDERED];
    final int[] lacked = new int[ORDERED];
    final int[] cuts = new int[ORDERED];
    final int[] goodsOfSet = new int[SETS];
    final int[] costBehind = new int[SETS];
    final int[] waysBehind = new int[SETS];
    final int[] row = new int[ORDERED];
    int size;

    /** Asked only for 1 to 8 graves. */
    void solve(Ground ground, int wantedGoods) {
      // what was found stays right as long as what it was found from is the same
      if (!takeIn(ground, wantedGoods)) {
        return;
      }
      joinGoods();
      weighSets();
      walkFirstRow();
    }

    private boolean takeIn(Ground ground, int wantedGoods) {
      boolean isOther = size != ground.size;
      size = Math.min(ground.size, ORDERED);
      for (int g = 0; g < size; g++) {
        Grave grave = ground.graves[g];
        int has = grave.goods & wantedGoods;
        int lacks = grave.goodsSurelyLacked() & wantedGoods;
        if (goods[g] != has || lacked[g] != lacks || cuts[g] != grave.cuts) {
          isOther = true;
        }
        goods[g] = has;
        lacked[g] = lacks;
        cuts[g] = grave.cuts;
      }
      return isOther;
    }

    private int allGraves() {
      return (1 << size) - 1;
    }

    private void joinGoods() {
      for (int g = 0; g < size; g++) {
        int bit = 1 << g;
        for (int set = 0; set < bit; set++) {
          goodsOfSet[bit + set] = goodsOfSet[set] | goods[g];
        }
      }
    }

    private void weighSets() {
      int all = allGraves();
      costBehind[all] = 0;
      waysBehind[all] = 1;
      for (int set = all - 1; set >= 0; set--) {
        int least = NEVER;
        int ways = 0;
        for (int g = 0; g < size; g++) {
          if (mayFollow(set, g)) {
            int cost = costThrough(set, g);
            if (cost < least) {
              least = cost;
              ways = 0;
            }
            if (cost == least) {
              ways += waysBehind[set | 1 << g];
            }
          }
        }
        costBehind[set] = least;
        waysBehind[set] = ways;
      }
    }

    private void walkFirstRow() {
      int set = 0;
      for (int place = 0; place < size; place++) {
        for (int g = 0; g < size; g++) {
          if (mayFollow(set, g) && costThrough(set, g) == costBehind[set]) {
            row[place] = g;
            set |= 1 << g;
            break;
          }
        }
      }
    }

    private boolean mayFollow(int set, int g) {
      return !isIn(set, g) && (cuts[g] & ~set) == 0;
    }

    private int costThrough(int set, int g) {
      int joined = set | 1 << g;
      int goingOn = goodsOfSet[set] & goodsOfSet[allGraves() & ~joined];
      return Integer.bitCount(goingOn & lacked[g]) + costBehind[joined];
    }

    int leastCost() {
      return costBehind[0];
    }

    int leastWays() {
      return waysBehind[0];
    }

    /** -1 if no grave has the good. */
    int firstPlaceOf(int good) {
      for (int place = 0; place < size; place++) {
        if (isIn(goods[row[place]], good)) {
          return place;
        }
      }
      return -1;
    }

    /** -1 if no grave has the good. */
    int lastPlaceOf(int good) {
      for (int place = size - 1; place >= 0; place--) {
        if (isIn(goods[row[place]], good)) {
          return place;
        }
      }
      return -1;
    }

    int holesOf(int good) {
      int last = lastPlaceOf(good);
      int count = 0;
      for (int place = firstPlaceOf(good) + 1; place < last; place++) {
        if (isIn(lacked[row[place]], good)) {
          count++;
        }
      }
      return count;
    }

    int goingOnAt(int place) {
      int ahead = 0;
      for (int i = 0; i < place; i++) {
        ahead |= 1 << row[i];
      }
      return Integer.bitCount(goodsOfSet[ahead] & goodsOfSet[allGraves() & ~ahead]);
    }
  }

  /** The borders of stretches. What a border costs does not hang on the others: the cheapest are taken. */
  private static final class Borders {
    final int[] goingOn = new int[ORDERED];
    final boolean[] isBorder = new boolean[ORDERED];
    int size;
    int total;

    void choose(RowSearch search, int k) {
      size = search.size;
      total = 0;
      for (int place = 0; place < size; place++) {
        goingOn[place] = search.goingOnAt(place);
        isBorder[place] = false;
      }
      for (int i = 1; i < k; i++) {
        int place = cheapestFree();
        if (place > 0) {
          isBorder[place] = true;
          total += goingOn[place];
        }
      }
    }

    /** The earliest of several; 0, which is no border, if none is free. */
    private int cheapestFree() {
      int cheapest = 0;
      for (int place = 1; place < size; place++) {
        if (!isBorder[place] && (cheapest == 0 || goingOn[place] < goingOn[cheapest])) {
          cheapest = place;
        }
      }
      return cheapest;
    }

    int beginOf(int stretch) {
      int begun = 0;
      for (int place = 1; place < size; place++) {
        if (isBorder[place]) {
          begun++;
          if (begun == stretch) {
            return place;
          }
        }
      }
      return 0;
    }
  }
}
