import java.util.ArrayList;
import java.util.Arrays;
import java.util.Collections;
import java.util.List;
import java.util.Set;
import java.util.TreeSet;

/** The document's words in the plainest form, with no thought of speed: what GraveRows is compared with. */
final class PlainRows {
  private static final class Grave {
    int kind;
    int x;
    int y;
    int from = -5000;
    int to = 5000;
    Set<Integer> goods = new TreeSet<>();
    Set<Integer> cuts = new TreeSet<>();
    Boolean[] marks = new Boolean[6];

    Grave twin() {
      Grave g = new Grave();
      g.kind = kind;
      g.x = x;
      g.y = y;
      g.from = from;
      g.to = to;
      g.goods = new TreeSet<>(goods);
      g.cuts = new TreeSet<>(cuts);
      g.marks = marks.clone();
      return g;
    }

    boolean isRobbed() {
      return kind == 1 || kind == 3;
    }
  }

  private List<Grave> graves = new ArrayList<>();
  private List<Integer> waiting = new ArrayList<>();
  private int[][] weights = new int[2][6];
  private List<Grave> keptGraves;
  private List<Integer> keptWaiting;
  private int[][] keptWeights;
  private final int[][] sheets = new int[4][];
  private final int[] bits = new int[4];
  private int findings;

  PlainRows() {
    for (int[] row : weights) {
      Arrays.fill(row, 10);
    }
  }

  private int no(int finding) {
    findings++;
    return finding;
  }

  private boolean out(int v, int least, int most) {
    return v < least || v > most;
  }

  private boolean outGrave(int g) {
    return out(g, 0, graves.size() - 1);
  }

  public int grave(int kind, int x, int y) {
    if (out(kind, 0, 3) || out(x, 0, 99) || out(y, 0, 99)) return no(Due.BEYOND);
    if (graves.size() == 10) return no(Due.FULL);
    Grave g = new Grave();
    g.kind = kind;
    g.x = x;
    g.y = y;
    graves.add(g);
    return graves.size() - 1;
  }

  public int as(int grave, int kind) {
    if (outGrave(grave) || out(kind, 0, 3)) return no(Due.BEYOND);
    int own = graves.get(grave).kind;
    boolean is = own == kind || kind == 0 || kind == 1 && own == 3;
    return is ? grave : no(Due.KIND);
  }

  private static int bitsOf(Set<Integer> set) {
    return set.stream().mapToInt(k -> 1 << k).sum();
  }

  public int goods(int grave, int set) {
    if (outGrave(grave) || out(set, 0, 4095)) return no(Due.BEYOND);
    int before = bitsOf(graves.get(grave).goods);
    graves.get(grave).goods.clear();
    for (int k = 0; k < 12; k++) {
      if ((set & 1 << k) != 0) graves.get(grave).goods.add(k);
    }
    return before;
  }

  public int of(int grave, int what) {
    if (outGrave(grave) || out(what, 0, 7)) return no(Due.BEYOND);
    Grave g = graves.get(grave);
    int cutBy = (int) graves.stream().filter(h -> h.cuts.contains(grave)).count();
    return new int[] {g.kind, g.x, g.y, bitsOf(g.goods), g.from, g.to, g.cuts.size(), cutBy}[what];
  }

  public int span(int grave, int from, int to) {
    if (outGrave(grave) || out(from, -5000, 5000) || out(to, -5000, 5000)) return no(Due.BEYOND);
    if (from > to) return no(Due.SIZE);
    graves.get(grave).from = from;
    graves.get(grave).to = to;
    return 1;
  }

  public int coin(int grave, int year) {
    if (outGrave(grave) || out(year, -5000, 5000)) return no(Due.BEYOND);
    Grave g = graves.get(grave);
    if (g.kind != 3) return no(Due.KIND);
    int from = Math.max(g.from, year);
    if (from > g.to) return no(Due.SIZE);
    g.from = from;
    return from;
  }

  private boolean isLater(int grave, int other) {
    for (int cut : graves.get(grave).cuts) {
      if (cut == other || isLater(cut, other)) return true;
    }
    return false;
  }

  public int cut(int grave, int other, boolean on) {
    if (outGrave(grave) || outGrave(other)) return no(Due.BEYOND);
    if (grave == other) return no(Due.SIZE);
    if (on && isLater(other, grave)) return no(Due.RING);
    Set<Integer> cuts = graves.get(grave).cuts;
    return (on ? cuts.add(other) : cuts.remove(other)) ? 1 : 0;
  }

  public int later(int grave, int other) {
    if (outGrave(grave) || outGrave(other)) return no(Due.BEYOND);
    return isLater(grave, other) ? 1 : 0;
  }

  public int fill() {
    if (graves.isEmpty()) return no(Due.NONE);
    int last = graves.size() - 1;
    graves.remove(last);
    for (Grave g : graves) g.cuts.remove(last);
    return last;
  }

  public int sheet(int s, int width, int n) {
    if (out(s, 0, 3) || width != 0 && width != 8 && width != 16 && width != 32) return no(Due.BEYOND);
    if (n < 0) return no(Due.SIZE);
    if (n > 12) return no(Due.BEYOND);
    sheets[s] = width == 0 ? null : new int[n];
    bits[s] = width;
    return width == 0 ? 0 : n;
  }

  public int put(int s, int i, int v) {
    if (out(s, 0, 3)) return no(Due.BEYOND);
    if (sheets[s] == null) return no(Due.MISSING);
    if (out(i, 0, sheets[s].length - 1)) return no(Due.BEYOND);
    sheets[s][i] = (int) Math.floorMod((long) v, 1L << bits[s]);
    return 0;
  }

  public int copy(int s, int from, int t, int to, int n) {
    if (out(s, 0, 3) || out(t, 0, 3)) return no(Due.BEYOND);
    if (sheets[s] == null || sheets[t] == null) return no(Due.MISSING);
    if (bits[s] != bits[t]) return no(Due.KIND);
    if (from < 0 || to < 0 || n < 0) return no(Due.BEYOND);
    if ((long) from + n > sheets[s].length || (long) to + n > sheets[t].length) return no(Due.BEYOND);
    int[] old = sheets[s].clone();
    for (int i = 0; i < n; i++) sheets[t][to + i] = old[from + i];
    return n;
  }

  public int read(int grave, int s) {
    if (outGrave(grave) || out(s, 0, 3)) return no(Due.BEYOND);
    if (sheets[s] == null) return no(Due.MISSING);
    Set<Integer> goods = graves.get(grave).goods;
    for (int k = 0; k < sheets[s].length; k++) {
      if (sheets[s][k] != 0) goods.add(k);
      else goods.remove(k);
    }
    return goods.size();
  }

  private int holesIn(List<Integer> row, int good) {
    int first = -1;
    int last = -1;
    for (int i = 0; i < row.size(); i++) {
      if (graves.get(row.get(i)).goods.contains(good)) {
        if (first < 0) first = i;
        last = i;
      }
    }
    int count = 0;
    for (int i = first + 1; i < last; i++) {
      Grave g = graves.get(row.get(i));
      if (!g.goods.contains(good) && !g.isRobbed()) count++;
    }
    return count;
  }

  private int costIn(List<Integer> row, int except) {
    int cost = 0;
    for (int good = 0; good < 12; good++) {
      if (good != except) cost += holesIn(row, good);
    }
    return cost;
  }

  private List<Integer> bestRow;
  private int bestCost;
  private int bestWays;

  private void tryAll(List<Integer> row, int except) {
    if (row.size() == graves.size()) {
      int cost = costIn(row, except);
      if (bestRow == null || cost < bestCost) {
        bestRow = new ArrayList<>(row);
        bestCost = cost;
        bestWays = 0;
      }
      if (cost == bestCost) bestWays++;
      return;
    }
    for (int g = 0; g < graves.size(); g++) {
      if (!row.contains(g) && row.containsAll(graves.get(g).cuts)) {
        row.add(g);
        tryAll(row, except);
        row.remove(row.size() - 1);
      }
    }
  }

  private void findBest(int except) {
    bestRow = null;
    tryAll(new ArrayList<>(), except);
  }

  private int noOrder() {
    if (graves.isEmpty()) return Due.NONE;
    return graves.size() > 8 ? Due.LONG : 0;
  }

  public int order() {
    if (noOrder() != 0) return no(noOrder());
    findBest(-1);
    return bestCost;
  }

  public int at(int place) {
    if (noOrder() != 0) return no(noOrder());
    if (outGrave(place)) return no(Due.BEYOND);
    findBest(-1);
    return bestRow.get(place);
  }

  public int holes(int good) {
    if (out(good, 0, 11)) return no(Due.BEYOND);
    if (noOrder() != 0) return no(noOrder());
    findBest(-1);
    return holesIn(bestRow, good);
  }

  public int good(int good, boolean last) {
    if (out(good, 0, 11)) return no(Due.BEYOND);
    if (graves.stream().noneMatch(g -> g.goods.contains(good))) return no(Due.NONE);
    if (noOrder() != 0) return no(noOrder());
    findBest(-1);
    List<Integer> places = new ArrayList<>();
    for (int i = 0; i < bestRow.size(); i++) {
      if (graves.get(bestRow.get(i)).goods.contains(good)) places.add(i);
    }
    return last ? Collections.max(places) : Collections.min(places);
  }

  public int tell(int v) {
    if (waiting.size() == 12) return no(Due.FULL);
    waiting.add(v);
    return waiting.size();
  }

  public int check() {
    List<Integer> row = waiting;
    waiting = new ArrayList<>();
    int n = graves.size();
    if (n == 0) return no(Due.NONE);
    for (int i = 0; i < n; i++) {
      if (i >= row.size() || outGrave(row.get(i)) || row.indexOf(row.get(i)) < i) return -1 - i;
      for (int g = 0; g < n; g++) {
        if (isLater(row.get(i), g) && !row.subList(0, i).contains(g)) return -1 - i;
      }
    }
    return row.size() > n ? -12 : costIn(row, -1);
  }

  public int without(int good) {
    if (out(good, 0, 11)) return no(Due.BEYOND);
    if (noOrder() != 0) return no(noOrder());
    findBest(good);
    return bestCost;
  }

  public int ways() {
    if (noOrder() != 0) return no(noOrder());
    findBest(-1);
    return bestWays;
  }

  private List<Integer> bestBorders;
  private int bestGoingOn;

  private int goingOn(int border) {
    int count = 0;
    for (int good = 0; good < 12; good++) {
      int k = good;
      boolean ahead = bestRow.subList(0, border).stream().anyMatch(g -> graves.get(g).goods.contains(k));
      boolean behind = bestRow.subList(border, bestRow.size()).stream().anyMatch(g -> graves.get(g).goods.contains(k));
      if (ahead && behind) count++;
    }
    return count;
  }

  private void tryBorders(List<Integer> borders, int k) {
    if (borders.size() == k) {
      int sum = borders.stream().skip(1).mapToInt(this::goingOn).sum();
      if (bestBorders == null || sum < bestGoingOn) {
        bestBorders = new ArrayList<>(borders);
        bestGoingOn = sum;
      }
      return;
    }
    for (int b = borders.get(borders.size() - 1) + 1; b < graves.size(); b++) {
      borders.add(b);
      tryBorders(borders, k);
      borders.remove(borders.size() - 1);
    }
  }

  private void findBorders(int k) {
    findBest(-1);
    bestBorders = null;
    tryBorders(new ArrayList<>(List.of(0)), k);
  }

  public int stretches(int k) {
    if (noOrder() != 0) return no(noOrder());
    if (out(k, 1, graves.size())) return no(Due.BEYOND);
    findBorders(k);
    return bestGoingOn;
  }

  public int border(int k, int i) {
    if (noOrder() != 0) return no(noOrder());
    if (out(k, 1, graves.size()) || out(i, 0, k - 1)) return no(Due.BEYOND);
    findBorders(k);
    return bestBorders.get(i);
  }

  private int earliest(int grave) {
    int year = graves.get(grave).from;
    for (int cut : graves.get(grave).cuts) year = Math.max(year, earliest(cut));
    return year;
  }

  private int latest(int grave) {
    int year = graves.get(grave).to;
    for (int g = 0; g < graves.size(); g++) {
      if (graves.get(g).cuts.contains(grave)) year = Math.min(year, latest(g));
    }
    return year;
  }

  public int year(int grave, boolean latest) {
    if (outGrave(grave)) return no(Due.BEYOND);
    return latest ? latest(grave) : earliest(grave);
  }

  public int wrong() {
    for (int g = 0; g < graves.size(); g++) {
      if (earliest(g) > latest(g)) return g;
    }
    return -1;
  }

  public int in(int year) {
    if (out(year, -5000, 5000)) return no(Due.BEYOND);
    int count = 0;
    for (int g = 0; g < graves.size(); g++) {
      if (!out(year, earliest(g), latest(g))) count++;
    }
    return count;
  }

  public int used(int good, boolean latest) {
    if (out(good, 0, 11)) return no(Due.BEYOND);
    List<Integer> years = new ArrayList<>();
    for (int g = 0; g < graves.size(); g++) {
      if (graves.get(g).goods.contains(good)) years.add(latest ? latest(g) : earliest(g));
    }
    if (years.isEmpty()) return no(Due.NONE);
    return latest ? Collections.max(years) : Collections.min(years);
  }

  private void hang(int grave, int distance, Set<Integer> seen) {
    if (!seen.add(grave)) return;
    Grave a = graves.get(grave);
    for (int g = 0; g < graves.size(); g++) {
      Grave b = graves.get(g);
      if (Math.max(Math.abs(a.x - b.x), Math.abs(a.y - b.y)) <= distance) hang(g, distance, seen);
    }
  }

  private int least(int grave, int distance) {
    TreeSet<Integer> seen = new TreeSet<>();
    hang(grave, distance, seen);
    return seen.first();
  }

  public int family(int grave, int distance) {
    if (outGrave(grave) || out(distance, 0, 99)) return no(Due.BEYOND);
    return least(grave, distance);
  }

  public int families(int distance) {
    if (out(distance, 0, 99)) return no(Due.BEYOND);
    Set<Integer> all = new TreeSet<>();
    for (int g = 0; g < graves.size(); g++) all.add(least(g, distance));
    return all.size();
  }

  private int[] likeness(int grave, int other) {
    Set<Integer> both = new TreeSet<>(graves.get(grave).goods);
    both.retainAll(graves.get(other).goods);
    Set<Integer> either = new TreeSet<>(graves.get(grave).goods);
    either.addAll(graves.get(other).goods);
    if (both.isEmpty()) return new int[] {0, 1};
    int a = both.size();
    int b = either.size();
    for (int d = 2; d <= 12; d++) {
      while (a % d == 0 && b % d == 0) {
        a /= d;
        b /= d;
      }
    }
    return new int[] {a, b};
  }

  public int like(int grave, int other, boolean below) {
    if (outGrave(grave) || outGrave(other)) return no(Due.BEYOND);
    return likeness(grave, other)[below ? 1 : 0];
  }

  public int nearest(int grave) {
    if (outGrave(grave)) return no(Due.BEYOND);
    if (graves.size() == 1) return no(Due.NONE);
    int best = -1;
    double most = -1;
    for (int g = 0; g < graves.size(); g++) {
      int[] like = likeness(grave, g);
      double value = (double) like[0] / like[1];
      if (g != grave && value > most) {
        best = g;
        most = value;
      }
    }
    return best;
  }

  public int mark(int grave, int mark, boolean man) {
    if (outGrave(grave) || out(mark, 0, 5)) return no(Due.BEYOND);
    Boolean before = graves.get(grave).marks[mark];
    graves.get(grave).marks[mark] = man;
    return before == null ? 1 : 0;
  }

  public int weigh(int mark, boolean man, int v) {
    if (out(mark, 0, 5) || out(v, 1, 20)) return no(Due.BEYOND);
    int before = weights[man ? 0 : 1][mark];
    weights[man ? 0 : 1][mark] = v;
    return before;
  }

  private long shareOf(Grave g, boolean man) {
    long product = 1;
    for (int m = 0; m < 6; m++) {
      int weight = weights[man ? 0 : 1][m];
      if (g.marks[m] != null) product *= g.marks[m] == man ? weight : 21 - weight;
    }
    return product;
  }

  public long share(int grave, boolean man) {
    if (outGrave(grave)) return no(Due.BEYOND);
    if (graves.get(grave).kind == 2) return no(Due.KIND);
    return shareOf(graves.get(grave), man);
  }

  public int people(int what) {
    if (out(what, 0, 2)) return no(Due.BEYOND);
    int[] counts = new int[3];
    for (Grave g : graves) {
      int sign = g.kind == 2 ? 0 : Long.compare(shareOf(g, true), shareOf(g, false));
      counts[sign > 0 ? 0 : sign < 0 ? 1 : 2]++;
    }
    return counts[what];
  }

  private static List<Grave> twins(List<Grave> list) {
    List<Grave> twins = new ArrayList<>();
    for (Grave g : list) twins.add(g.twin());
    return twins;
  }

  public int keep() {
    keptGraves = twins(graves);
    keptWaiting = new ArrayList<>(waiting);
    keptWeights = new int[][] {weights[0].clone(), weights[1].clone()};
    return graves.size();
  }

  public int back() {
    if (keptGraves == null) return no(Due.NONE);
    graves = twins(keptGraves);
    waiting = new ArrayList<>(keptWaiting);
    weights = new int[][] {keptWeights[0].clone(), keptWeights[1].clone()};
    return graves.size();
  }

  public int told(int what) {
    if (out(what, 0, 3)) return no(Due.BEYOND);
    int cuts = graves.stream().mapToInt(g -> g.cuts.size()).sum();
    return new int[] {graves.size(), cuts, findings, waiting.size()}[what];
  }
}
