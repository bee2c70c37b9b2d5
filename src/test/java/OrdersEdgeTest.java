/** The boundary cases of promises 15 to 24, each by itself. */
public final class OrdersEdgeTest {
  private static final Due due = new Due();
  private static final Twins twins = new Twins(due);

  public static void main(String[] args) {
    noneOrLong();
    longEndsWithFill();
    orderEdges();
    atBeyond();
    holesBeyond();
    holesEdges();
    goodBeyond();
    goodNone();
    goodLong();
    tellFull();
    tellAnyNumber();
    checkNone();
    numbersAreGoneAfterCheck();
    checkMissingOrNoGrave();
    checkToldTwice();
    checkLater();
    checkMore();
    checkNineAndTen();
    withoutBeyond();
    withoutEdges();
    waysEdges();
    stretchesBeyond();
    stretchesEdges();
    borderBeyond();
    borderOfSeveral();
    due.end();
  }

  /** Each good is in a grave, so that NONE is told for want of graves alone. */
  private static GraveRows withAllGoods(int n) {
    GraveRows x = States.busy(n);
    for (int g = 0; g < n; g++) {
      x.goods(g, 4095);
    }
    return x;
  }

  private static void noneOrLong() {
    Twins.Act[] acts = {
      GraveRows::order, x -> x.at(0), x -> x.holes(0), x -> x.good(0, false), x -> x.good(0, true), x -> x.without(0),
      GraveRows::ways, x -> x.stretches(1), x -> x.border(1, 0),
    };
    String[] names = {"15 order", "16 at", "17 holes", "18 good", "18 good, last", "21 without", "22 ways", "23 stretches", "24 border"};
    for (int i = 0; i < acts.length; i++) {
      Twins.Act act = acts[i];
      twins.refused(names[i] + ": none", States::empty, Due.NONE, act);
      twins.refused(names[i] + ": long with 9", () -> withAllGoods(9), Due.LONG, act);
      twins.refused(names[i] + ": long with 10", () -> withAllGoods(10), Due.LONG, act);
      for (int n = 1; n <= 8; n++) {
        GraveRows x = withAllGoods(n);
        due.isTrue(names[i] + ": not with " + n, act.on(x) >= 0);
        due.is(names[i] + ": no finding with " + n, x.told(2), 0);
      }
    }
  }

  private static void longEndsWithFill() {
    GraveRows x = States.graves(10);
    due.is("15 ten", x.order(), Due.LONG);
    x.fill();
    due.is("15 nine", x.order(), Due.LONG);
    x.fill();
    due.is("15 eight", x.order(), 0);
    due.is("16 eight", x.at(7), 7);
    x.grave(0, 0, 0);
    due.is("16 nine again", x.at(7), Due.LONG);
    for (int g = 0; g < 9; g++) {
      x.fill();
    }
    due.is("15 none are left", x.order(), Due.NONE);
    due.is("15 nothing is left of holes that were", afterEight(3).order(), 0);
    due.is("22 nothing is left of ways that were", afterEight(3).ways(), 6);
    due.is("16 none are left", x.at(0), Due.NONE);
  }

  /** Eight graves in a row with holes at its end, which are asked for and go, so that n are left. */
  private static GraveRows afterEight(int n) {
    GraveRows x = States.graves(8);
    x.goods(4, 4095);
    x.goods(7, 4095);
    for (int g = 4; g < 8; g++) {
      x.cut(g, g - 1, true);
    }
    due.is("15 holes of eight", x.order(), 24);
    for (int g = 8; g > n; g--) {
      x.fill();
    }
    return x;
  }

  private static void orderEdges() {
    due.is("15 one grave", withAllGoods(1).order(), 0);
    due.is("15 two graves have nothing between them", Due.withGoods(4095, 4095).order(), 0);
    GraveRows most = States.graves(8);
    most.goods(0, 4095);
    most.goods(7, 4095);
    for (int g = 1; g < 8; g++) {
      most.cut(g, g - 1, true);
    }
    due.is("15 as many holes as there can be", most.order(), 72);
    GraveRows several = States.graves(8);
    for (int place = 0; place < 8; place++) {
      due.is("15 of several the first", several.at(place), place);
    }
  }

  private static void atBeyond() {
    for (int n = 1; n <= 8; n++) {
      int size = n;
      twins.range("16 place, " + n + " graves,", () -> States.busy(size), 0, n - 1, (x, v) -> x.at(v));
    }
    twins.range("16 place", States::rich, 0, 4, (x, v) -> x.at(v));
    for (int place : new int[] {Integer.MIN_VALUE, -1, 0, 1, 10, Integer.MAX_VALUE}) {
      twins.refused("16 none, ahead of place " + place, States::empty, Due.NONE, x -> x.at(place));
      twins.refused("16 long, ahead of place " + place, () -> States.busy(9), Due.LONG, x -> x.at(place));
    }
  }

  private static void holesBeyond() {
    twins.range("17 good", States::rich, 0, 11, (x, v) -> x.holes(v));
    twins.outside("17 good, ahead of none", States::empty, 0, 11, (x, v) -> x.holes(v));
    twins.outside("17 good, ahead of long", () -> States.busy(9), 0, 11, (x, v) -> x.holes(v));
  }

  /** Graves in a row by cuts: 0, the one between of a kind, 2. */
  private static GraveRows withBetween(int kind, int first, int between, int last) {
    GraveRows x = new GraveRows();
    x.grave(0, 0, 0);
    x.grave(kind, 0, 0);
    x.grave(0, 0, 0);
    x.cut(1, 0, true);
    x.cut(2, 1, true);
    x.goods(0, first);
    x.goods(1, between);
    x.goods(2, last);
    return x;
  }

  private static void holesEdges() {
    int[] ofKind = {1, 0, 1, 0};
    for (int kind = 0; kind < 4; kind++) {
      for (int good = 0; good < 12; good++) {
        due.is("17 between, kind " + kind, withBetween(kind, 1 << good, 0, 1 << good).holes(good), ofKind[kind]);
        due.is("17 it has it, kind " + kind, withBetween(kind, 1 << good, 1 << good, 1 << good).holes(good), 0);
        due.is("17 ahead of the first, kind " + kind, withBetween(kind, 0, 0, 1 << good).holes(good), 0);
        due.is("17 behind the last, kind " + kind, withBetween(kind, 1 << good, 0, 0).holes(good), 0);
        due.is("17 one alone, kind " + kind, withBetween(kind, 0, 1 << good, 0).holes(good), 0);
        due.is("17 none has it, kind " + kind, withBetween(kind, 0, 0, 0).holes(good), 0);
      }
    }
    GraveRows six = States.graves(8);
    six.goods(0, 2048);
    six.goods(7, 2048);
    for (int g = 1; g < 8; g++) {
      six.cut(g, g - 1, true);
    }
    due.is("17 six of eight", six.holes(11), 6);
  }

  private static void goodBeyond() {
    for (boolean last : new boolean[] {false, true}) {
      twins.range("18 good", () -> withAllGoods(1), 0, 11, (x, v) -> x.good(v, last));
      twins.outside("18 good, ahead of no graves", States::empty, 0, 11, (x, v) -> x.good(v, last));
      twins.outside("18 good, ahead of none has it", () -> States.busy(1), 0, 11, (x, v) -> x.good(v, last));
      twins.outside("18 good, ahead of long", () -> withAllGoods(9), 0, 11, (x, v) -> x.good(v, last));
    }
  }

  private static void goodNone() {
    for (boolean last : new boolean[] {false, true}) {
      for (int good = 4; good < 11; good++) {
        int g = good;
        twins.refused("18 none has good " + good, States::rich, Due.NONE, x -> x.good(g, last));
      }
      twins.refused("18 a robbed one that may have it does not", () -> States.busyOfKind(1), Due.NONE, x -> x.good(0, last));
      twins.refused("18 none has it, ahead of long", () -> States.busy(9), Due.NONE, x -> x.good(0, last));
      twins.refused("18 none of ten has it, ahead of long", () -> States.busy(10), Due.NONE, x -> x.good(11, last));
    }
    due.is("18 at the first place", withBetween(0, 2048, 0, 0).good(11, true), 0);
    due.is("18 at the last place", withBetween(0, 0, 0, 2048).good(11, false), 2);
    due.is("18 the first of two", withBetween(0, 1, 0, 1).good(0, false), 0);
    due.is("18 the last of two", withBetween(0, 1, 0, 1).good(0, true), 2);
  }

  private static void goodLong() {
    for (int haver = 0; haver < 9; haver++) {
      GraveRows x = States.graves(9);
      x.goods(haver, 1);
      due.is("18 one of nine has it", x.good(0, false), Due.LONG);
    }
  }

  private static GraveRows withWaiting(int n) {
    GraveRows x = emptyWithWaiting(n);
    for (int g = 0; g < 3; g++) {
      x.grave(0, 0, 0);
    }
    return x;
  }

  private static void tellFull() {
    GraveRows x = new GraveRows();
    for (int i = 1; i <= 12; i++) {
      due.is("19 how many wait", x.tell(0), i);
      due.is("19 how many wait, told", x.told(3), i);
    }
    due.is("19 no finding so far", x.told(2), 0);
    for (int v : new int[] {Integer.MIN_VALUE, -1, 0, 2, Integer.MAX_VALUE}) {
      twins.refused("19 full for " + v, () -> withWaiting(12), Due.FULL, y -> y.tell(v));
    }
    due.is("19 not full with eleven", withWaiting(11).tell(0), 12);
    GraveRows again = withWaiting(12);
    again.check();
    due.is("19 not full after check", again.tell(0), 1);
  }

  private static void tellAnyNumber() {
    for (int v : new int[] {Integer.MIN_VALUE, -100006, -1, 0, 9, 10, Integer.MAX_VALUE}) {
      GraveRows x = new GraveRows();
      due.is("19 any number, " + v, x.tell(v), 1);
      due.is("19 no finding, " + v, x.told(2), 0);
    }
  }

  private static GraveRows emptyWithWaiting(int n) {
    GraveRows x = States.emptyWithoutNumbers();
    for (int i = 0; i < n; i++) {
      x.tell(i);
    }
    return x;
  }

  private static void checkNone() {
    for (int n = 0; n <= 12; n++) {
      int count = n;
      twins.refusedAndLikes("20 none, the " + n + " numbers are gone", () -> emptyWithWaiting(count),
          States::emptyWithoutNumbers, Due.NONE, GraveRows::check);
    }
    GraveRows filled = withWaiting(3);
    for (int g = 0; g < 3; g++) {
      filled.fill();
    }
    due.is("20 none are left", filled.check(), Due.NONE);
    due.is("20 the numbers are gone", filled.told(3), 0);
  }

  private static void numbersAreGoneAfterCheck() {
    int[][] rows = {{0, 1, 2}, {}, {0, 1}, {7}, {0, 0, 1}, {0, 1, 2, 0}, {0, 1, 2, 99}, {0, 1, 2, -1}};
    int[] want = {0, -1, -3, -1, -2, -12, -12, -12};
    for (int i = 0; i < rows.length; i++) {
      GraveRows x = States.graves(3);
      due.is("20 row " + i, Due.checkRow(x, rows[i]), want[i]);
      due.is("20 the numbers are gone, row " + i, x.told(3), 0);
      due.is("20 no finding, row " + i, x.told(2), 0);
      due.is("20 nothing is told any more, row " + i, x.check(), -1);
      due.is("20 from the beginning, row " + i, Due.checkRow(x, 2, 1, 0), 0);
    }
  }

  private static void checkMissingOrNoGrave() {
    for (int n = 1; n <= 10; n++) {
      for (int told = 0; told <= n; told++) {
        int[] row = new int[told];
        for (int i = 0; i < told; i++) {
          row[i] = i;
        }
        due.is("20 " + told + " of " + n, Due.checkRow(States.graves(n), row), told < n ? -1 - told : 0);
      }
      for (int place = 0; place < n; place++) {
        for (int bad : new int[] {Integer.MIN_VALUE, -1, n, n + 30, Integer.MAX_VALUE}) {
          int[] row = new int[n];
          for (int i = 0; i < n; i++) {
            row[i] = i == place ? bad : i;
          }
          due.is("20 no grave " + bad + " at " + place + " of " + n, Due.checkRow(States.graves(n), row), -1 - place);
        }
      }
    }
  }

  private static void checkToldTwice() {
    for (int first = 0; first < 10; first++) {
      for (int second = first + 1; second < 10; second++) {
        int[] row = {0, 1, 2, 3, 4, 5, 6, 7, 8, 9};
        row[second] = row[first];
        due.is("20 twice, at " + first + " and " + second, Due.checkRow(States.graves(10), row), -1 - second);
      }
    }
  }

  private static void checkLater() {
    for (int earlier = 1; earlier < 10; earlier++) {
      for (int later = 0; later < earlier; later++) {
        GraveRows x = States.graves(10);
        x.cut(later, earlier, true);
        due.is("20 ahead of one that it cuts", Due.checkRow(x, 0, 1, 2, 3, 4, 5, 6, 7, 8, 9), -1 - later);
        due.is("20 behind it", Due.checkRow(x, 9, 8, 7, 6, 5, 4, 3, 2, 1, 0), 0);
      }
    }
    GraveRows steps = States.graves(3);
    steps.cut(0, 1, true);
    steps.cut(1, 2, true);
    due.is("20 by cuts from one to the next", Due.checkRow(steps, 0, 2, 1), -1);
    due.is("20 the second place", Due.checkRow(steps, 2, 0, 1), -2);
    due.is("20 it is told only beyond", Due.checkRow(steps, 2, 0, 9, 1), -2);
    due.is("20 behind all that it cuts", Due.checkRow(steps, 2, 1, 0), 0);
  }

  private static void checkMore() {
    for (int n = 1; n <= 10; n++) {
      for (int told = n + 1; told <= 12; told++) {
        int[] row = new int[told];
        for (int i = 0; i < told; i++) {
          row[i] = i;
        }
        due.is("20 " + told + ", " + n + " graves", Due.checkRow(States.graves(n), row), -12);
        row[n - 1] = -1;
        due.is("20 a wrong place, ahead of more", Due.checkRow(States.graves(n), row), -n);
      }
    }
    GraveRows x = States.graves(2);
    x.goods(0, 1);
    due.is("20 more that are graves", Due.checkRow(x, 1, 0, 1), -12);
  }

  /** Promise 20 names no LONG. */
  private static void checkNineAndTen() {
    GraveRows nine = States.graves(9);
    nine.goods(0, 3);
    nine.goods(8, 3);
    due.is("20 nine", Due.checkRow(nine, 0, 1, 2, 3, 4, 5, 6, 7, 8), 14);
    GraveRows ten = States.graves(10);
    ten.goods(0, 4095);
    ten.goods(9, 4095);
    due.is("20 ten, all holes", Due.checkRow(ten, 0, 1, 2, 3, 4, 5, 6, 7, 8, 9), 96);
    due.is("20 ten, no holes", Due.checkRow(ten, 0, 9, 1, 2, 3, 4, 5, 6, 7, 8), 0);
    due.is("20 one grave", Due.checkRow(Due.withGoods(4095), 0), 0);
  }

  private static void withoutBeyond() {
    twins.range("21 good", States::rich, 0, 11, (x, v) -> x.without(v));
    twins.outside("21 good, ahead of none", States::empty, 0, 11, (x, v) -> x.without(v));
    twins.outside("21 good, ahead of long", () -> States.busy(10), 0, 11, (x, v) -> x.without(v));
  }

  private static void withoutEdges() {
    for (int good = 0; good < 12; good++) {
      GraveRows x = withBetween(0, 1 << good, 0, 1 << good);
      for (int other = 0; other < 12; other++) {
        due.is("21 good " + good + " without " + other, x.without(other), other == good ? 0 : 1);
      }
      due.is("21 all goods but one", withBetween(0, 4095, 0, 4095).without(good), 11);
    }
  }

  private static void waysEdges() {
    int[] all = {1, 2, 6, 24, 120, 720, 5040, 40320};
    for (int n = 1; n <= 8; n++) {
      due.is("22 all orders of " + n, States.graves(n).ways(), all[n - 1]);
      GraveRows one = States.graves(n);
      for (int g = 1; g < n; g++) {
        one.cut(g - 1, g, true);
      }
      due.is("22 one order of " + n, one.ways(), 1);
    }
    GraveRows holes = States.graves(4);
    holes.cut(1, 0, true);
    holes.cut(2, 1, true);
    holes.goods(0, 1);
    holes.goods(2, 1);
    due.is("22 of the least cost, though it is not 0", holes.ways(), 2);
  }

  private static void stretchesBeyond() {
    for (int n = 1; n <= 8; n++) {
      int size = n;
      twins.range("23 k, " + n + " graves,", () -> withAllGoods(size), 1, n, (x, v) -> x.stretches(v));
    }
    twins.range("23 k", States::rich, 1, 5, (x, v) -> x.stretches(v));
    for (int k : new int[] {Integer.MIN_VALUE, -1, 0, 1, 11, Integer.MAX_VALUE}) {
      twins.refused("23 none, ahead of k " + k, States::empty, Due.NONE, x -> x.stretches(k));
      twins.refused("23 long, ahead of k " + k, () -> States.busy(9), Due.LONG, x -> x.stretches(k));
    }
  }

  private static void stretchesEdges() {
    for (int n = 1; n <= 8; n++) {
      for (int k = 1; k <= n; k++) {
        due.is("23 all goods go on over each border", withAllGoods(n).stretches(k), 12 * (k - 1));
        due.is("23 no goods go on", States.graves(n).stretches(k), 0);
      }
    }
    GraveRows over = withBetween(0, 1, 0, 1);
    due.is("23 over both borders, though not in the grave between", over.stretches(3), 2);
    GraveRows backward = withAllGoods(8);
    for (int g = 0; g < 7; g++) {
      backward.cut(g, g + 1, true);
    }
    for (int k = 1; k <= 8; k++) {
      due.is("23 backward, all goods go on over each border", backward.stretches(k), 12 * (k - 1));
    }
    GraveRows robbed = withBetween(1, 1, 0, 0);
    due.is("23 that it may have it does not count", robbed.stretches(3), 0);
  }

  private static void borderBeyond() {
    for (int n = 1; n <= 8; n++) {
      int size = n;
      twins.range("24 k, " + n + " graves,", () -> withAllGoods(size), 1, n, (x, v) -> x.border(v, 0));
      for (int k = 1; k <= n; k++) {
        int all = k;
        twins.range("24 i of " + k, () -> withAllGoods(size), 0, k - 1, (x, v) -> x.border(all, v));
        due.is("24 the first one begins at 0", withAllGoods(n).border(k, 0), 0);
      }
    }
    twins.refused("24 i that there would be of a k that is not", States::rich, Due.BEYOND, x -> x.border(6, 5));
    for (int v : new int[] {Integer.MIN_VALUE, -1, 0, 11, Integer.MAX_VALUE}) {
      twins.refused("24 none, ahead of k " + v, States::empty, Due.NONE, x -> x.border(v, 0));
      twins.refused("24 none, ahead of i " + v, States::empty, Due.NONE, x -> x.border(1, v));
      twins.refused("24 long, ahead of k " + v, () -> States.busy(9), Due.LONG, x -> x.border(v, 0));
      twins.refused("24 long, ahead of i " + v, () -> States.busy(9), Due.LONG, x -> x.border(1, v));
    }
  }

  private static void borderOfSeveral() {
    for (int k = 1; k <= 8; k++) {
      for (int i = 0; i < k; i++) {
        due.is("24 of several the earliest", States.graves(8).border(k, i), i);
      }
    }
    // one good goes on over the first border, none over the two others
    GraveRows x = Due.withGoods(1, 1, 0, 0);
    for (int g = 1; g < 4; g++) {
      x.cut(g, g - 1, true);
    }
    due.is("24 fewest, ahead of earliest", x.border(2, 1), 2);
    due.is("24 fewest, the first of two", x.border(3, 1), 2);
    due.is("24 fewest, the second of two", x.border(3, 2), 3);
    due.is("24 all of them", x.border(4, 1), 1);
  }
}
