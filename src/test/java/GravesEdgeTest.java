/** The boundary cases of promises 1 to 10, each by itself. */
public final class GravesEdgeTest {
  private static final Due due = new Due();
  private static final Twins twins = new Twins(due);

  public static void main(String[] args) {
    newObjectHasNothing();
    graveBeyond();
    graveFull();
    asBeyond();
    asKind();
    goodsBeyond();
    ofBeyond();
    spanBeyond();
    spanSize();
    coinBeyond();
    coinKind();
    coinSize();
    coinIfGreater();
    cutBeyond();
    cutSize();
    cutRing();
    cutIsNoRing();
    laterBeyond();
    laterEdges();
    fillNone();
    fillFromFull();
    fillTakesCutsAndMarks();
    due.end();
  }

  private static void newObjectHasNothing() {
    GraveRows x = new GraveRows();
    due.is("1 no graves", x.told(0), 0);
    due.is("1 no cuts", x.told(1), 0);
    due.is("1 no findings", x.told(2), 0);
    due.is("1 no numbers wait", x.told(3), 0);
    due.is("1 none can't be", x.wrong(), -1);
    due.is("1 no families", x.families(99), 0);
    for (int m = 0; m < 6; m++) {
      due.is("1 weight of a man, mark " + m, x.weigh(m, true, 20), 10);
      due.is("1 weight of a woman, mark " + m, x.weigh(m, false, 20), 10);
    }
    x.grave(0, 0, 0);
    for (int s = 0; s < 4; s++) {
      due.is("1 sheet " + s + " is missing for put", x.put(s, 0, 0), Due.MISSING);
      due.is("1 sheet " + s + " is missing for copy", x.copy(s, 0, s, 0, 0), Due.MISSING);
      due.is("1 sheet " + s + " is missing for read", x.read(0, s), Due.MISSING);
    }
    due.is("1 nothing is kept", new GraveRows().back(), Due.NONE);
  }

  private static void graveBeyond() {
    twins.range("2 kind", States::empty, 0, 3, (x, v) -> x.grave(v, 0, 0));
    twins.range("2 x", States::empty, 0, 99, (x, v) -> x.grave(0, v, 0));
    twins.range("2 y", States::empty, 0, 99, (x, v) -> x.grave(0, 0, v));
    twins.range("2 kind, other graves", States::rich, 0, 3, (x, v) -> x.grave(v, 99, 99));
    twins.range("2 x, other graves", States::rich, 0, 99, (x, v) -> x.grave(3, v, 99));
    twins.range("2 y, other graves", States::rich, 0, 99, (x, v) -> x.grave(3, 99, v));
    GraveRows corners = new GraveRows();
    corners.grave(0, 0, 99);
    corners.grave(3, 99, 0);
    due.is("2 the least kind", corners.of(0, 0), 0);
    due.is("2 the least x", corners.of(0, 1), 0);
    due.is("2 the greatest y", corners.of(0, 2), 99);
    due.is("2 the greatest kind", corners.of(1, 0), 3);
    due.is("2 the greatest x", corners.of(1, 1), 99);
    due.is("2 the least y", corners.of(1, 2), 0);
  }

  private static void graveFull() {
    GraveRows x = new GraveRows();
    for (int g = 0; g < 10; g++) {
      due.is("2 grave " + g, x.grave(g % 4, 99, 99), g);
    }
    for (int kind = 0; kind < 4; kind++) {
      int k = kind;
      twins.refused("2 full for kind " + kind, () -> States.busy(10), Due.FULL, y -> y.grave(k, 0, 0));
    }
    Twins.State full = () -> States.busy(10);
    twins.refused("2 kind below, ahead of full", full, Due.BEYOND, y -> y.grave(-1, 0, 0));
    twins.refused("2 kind above, ahead of full", full, Due.BEYOND, y -> y.grave(4, 0, 0));
    twins.refused("2 x below, ahead of full", full, Due.BEYOND, y -> y.grave(0, -1, 0));
    twins.refused("2 x above, ahead of full", full, Due.BEYOND, y -> y.grave(0, 100, 0));
    twins.refused("2 y below, ahead of full", full, Due.BEYOND, y -> y.grave(0, 0, -1));
    twins.refused("2 y above, ahead of full", full, Due.BEYOND, y -> y.grave(0, 0, 100));
    x.fill();
    due.is("2 not full any more", x.grave(0, 0, 0), 9);
    due.is("2 full again", x.grave(0, 0, 0), Due.FULL);
  }

  private static void asBeyond() {
    twins.graves("3 grave", (x, v) -> x.as(v, 0));
    twins.outside("3 kind for a grave", States::rich, 0, 3, (x, v) -> x.as(0, v));
    twins.range("3 kind for a treasure", States::rich, 0, 3, (x, v) -> x.as(3, v));
    twins.refused("3 no grave and no kind", States::rich, Due.BEYOND, x -> x.as(5, 4));
  }

  private static void asKind() {
    int[][] none = {{0, 1}, {0, 2}, {0, 3}, {1, 2}, {1, 3}, {2, 1}, {2, 3}, {3, 2}};
    for (int[] pair : none) {
      twins.refused("3 kind " + pair[0] + " as " + pair[1], States::rich, Due.KIND, x -> x.as(pair[0], pair[1]));
    }
    int[][] some = {{0, 0}, {1, 0}, {1, 1}, {2, 0}, {2, 2}, {3, 0}, {3, 1}, {3, 3}};
    for (int[] pair : some) {
      due.is("3 kind " + pair[0] + " as " + pair[1], States.rich().as(pair[0], pair[1]), pair[0]);
    }
  }

  private static void goodsBeyond() {
    twins.graves("4 grave", (x, v) -> x.goods(v, 1));
    twins.range("4 set", () -> States.busy(1), 0, 4095, (x, v) -> x.goods(0, v));
    twins.range("4 set in place of another one", States::rich, 0, 4095, (x, v) -> x.goods(4, v));
    for (int bit = 12; bit < 32; bit++) {
      int set = 1 << bit | 1;
      twins.refused("4 bit " + bit, States::rich, Due.BEYOND, x -> x.goods(0, set));
    }
    GraveRows x = States.graves(1);
    for (int good = 0; good < 12; good++) {
      x.goods(0, 1 << good);
      due.is("4 good " + good, x.of(0, 3), 1 << good);
    }
    due.is("4 all of them", x.goods(0, 4095), 2048);
    due.is("4 none of them", x.goods(0, 0), 4095);
    due.is("4 none they were", x.goods(0, 1), 0);
  }

  private static void ofBeyond() {
    for (int what = 0; what < 8; what++) {
      int w = what;
      twins.graves("5 grave, what " + what, (x, v) -> x.of(v, w));
    }
    twins.range("5 what", States::rich, 0, 7, (x, v) -> x.of(4, v));
    GraveRows ten = States.graves(10);
    for (int g = 1; g < 10; g++) {
      ten.cut(0, g, true);
      ten.cut(g, 9, true);
    }
    due.is("5 it cuts all others", ten.of(0, 6), 9);
    due.is("5 none cuts it", ten.of(0, 7), 0);
    due.is("5 all others cut it", ten.of(9, 7), 9);
    due.is("5 it cuts none", ten.of(9, 6), 0);
    due.is("5 only its own cuts, not those by steps", ten.of(1, 6), 1);
    due.is("5 only its own cutters, not those by steps", ten.of(1, 7), 1);
  }

  private static void spanBeyond() {
    twins.graves("6 grave", (x, v) -> x.span(v, 0, 0));
    twins.range("6 first year", () -> States.busy(1), -5000, 5000, (x, v) -> x.span(0, v, 5000));
    twins.range("6 last year", () -> States.busy(1), -5000, 5000, (x, v) -> x.span(0, -5000, v));
    twins.refused("6 the first is beyond, ahead of size", States::rich, Due.BEYOND, x -> x.span(3, 5001, 5000));
    twins.refused("6 the last is beyond, ahead of size", States::rich, Due.BEYOND, x -> x.span(3, -5000, -5001));
    twins.refused("6 no grave, ahead of size", States::rich, Due.BEYOND, x -> x.span(5, 1, 0));
    GraveRows x = States.graves(1);
    x.span(0, -5000, -5000);
    due.is("6 the least last year", x.of(0, 5), -5000);
    x.span(0, 5000, 5000);
    due.is("6 the greatest first year", x.of(0, 4), 5000);
    due.is("6 all years again", x.span(0, -5000, 5000), 1);
    due.is("6 the least first year", x.of(0, 4), -5000);
    due.is("6 the greatest last year", x.of(0, 5), 5000);
  }

  private static void spanSize() {
    for (int year : new int[] {-5000, -1, 0, 1, 4999}) {
      due.is("6 one year, " + year, States.rich().span(3, year, year), 1);
      twins.refused("6 the first is one above, " + year, States::rich, Due.SIZE, x -> x.span(3, year + 1, year));
    }
    due.is("6 one year, 5000", States.rich().span(3, 5000, 5000), 1);
    twins.refused("6 the first is far above", States::rich, Due.SIZE, x -> x.span(3, 5000, -5000));
  }

  private static void coinBeyond() {
    twins.outsideGraves("7 grave", (x, v) -> x.coin(v, 0));
    twins.outside("7 beside a treasure", () -> States.busyOfKind(3), 0, 0, (x, v) -> x.coin(v, 0));
    twins.range("7 year", () -> States.busyOfKind(3), -5000, 5000, (x, v) -> x.coin(0, v));
    for (int grave = 0; grave < 3; grave++) {
      int g = grave;
      twins.refused("7 year above, ahead of kind", States::rich, Due.BEYOND, x -> x.coin(g, 5001));
      twins.refused("7 year below, ahead of kind", States::rich, Due.BEYOND, x -> x.coin(g, -5001));
    }
    twins.refused("7 year above, ahead of size", States::rich, Due.BEYOND, x -> x.coin(3, 5001));
    twins.refused("7 no grave, ahead of all", States::rich, Due.BEYOND, x -> x.coin(5, 101));
  }

  private static void coinKind() {
    for (int kind = 0; kind < 3; kind++) {
      int g = kind;
      twins.refused("7 no treasure, kind " + kind, States::rich, Due.KIND, x -> x.coin(g, 60));
    }
    Twins.State narrow = () -> {
      GraveRows x = States.rich();
      x.span(1, 0, 50);
      return x;
    };
    twins.refused("7 no treasure, ahead of size", narrow, Due.KIND, x -> x.coin(1, 51));
  }

  private static void coinSize() {
    due.is("7 the span's last year", States.rich().coin(3, 100), 100);
    twins.refused("7 one above it", States::rich, Due.SIZE, x -> x.coin(3, 101));
    twins.refused("7 far above it", States::rich, Due.SIZE, x -> x.coin(3, 5000));
    due.is("7 all years, the last one", States.ofKind(3).coin(0, 5000), 5000);
    GraveRows cut = States.rich();
    cut.cut(0, 3, true);
    cut.span(0, -300, 20);
    due.is("7 its LATEST does not count", cut.coin(3, 21), 21);
    due.is("7 but it can't be then", cut.wrong(), 0);
  }

  private static void coinIfGreater() {
    due.is("7 less by one", States.rich().coin(3, 9), 10);
    due.is("7 the same", States.rich().coin(3, 10), 10);
    due.is("7 greater by one", States.rich().coin(3, 11), 11);
    due.is("7 the least year", States.rich().coin(3, -5000), 10);
    GraveRows x = States.ofKind(3);
    due.is("7 of all years the least", x.coin(0, -5000), -5000);
    due.is("7 one above it", x.coin(0, -4999), -4999);
    due.is("7 it stays in the span", x.of(0, 4), -4999);
    due.is("7 the last year stays", x.of(0, 5), 5000);
  }

  private static void cutBeyond() {
    for (boolean on : new boolean[] {true, false}) {
      twins.outsideGraves("8 grave", (x, v) -> x.cut(v, 0, on));
      twins.outsideGraves("8 other", (x, v) -> x.cut(0, v, on));
      twins.allowed("8 the last grave", () -> States.busy(10), 9, (x, v) -> x.cut(v, 0, on));
      twins.allowed("8 the last grave as other", () -> States.busy(10), 9, (x, v) -> x.cut(0, v, on));
      twins.allowed("8 the first other", () -> States.busy(10), 0, (x, v) -> x.cut(9, v, on));
      twins.refused("8 both beyond", States::rich, Due.BEYOND, x -> x.cut(5, 6, on));
      twins.refused("8 they are one, beyond ahead of size", States::rich, Due.BEYOND, x -> x.cut(5, 5, on));
      twins.refused("8 they are one below, beyond ahead of size", States::rich, Due.BEYOND, x -> x.cut(-1, -1, on));
    }
  }

  private static void cutSize() {
    for (int grave = 0; grave < States.RICH_GRAVES; grave++) {
      int g = grave;
      twins.refused("8 one, ahead of ring", States::rich, Due.SIZE, x -> x.cut(g, g, true));
      twins.refused("8 one, off", States::rich, Due.SIZE, x -> x.cut(g, g, false));
    }
  }

  /** 9 cuts 8, 8 cuts 7, .. */
  private static GraveRows chainOfTen() {
    return chained(States.graves(10));
  }

  private static GraveRows chained(GraveRows x) {
    for (int g = 1; g < 10; g++) {
      x.cut(g, g - 1, true);
    }
    return x;
  }

  private static void cutRing() {
    for (int length = 2; length <= 10; length++) {
      int last = length - 1;
      twins.refused("8 ring of " + length, () -> chained(States.busy(10)), Due.RING, x -> x.cut(0, last, true));
    }
    twins.refused("8 ring by steps", States::rich, Due.RING, x -> x.cut(1, 4, true));
    twins.refused("8 ring of two", States::rich, Due.RING, x -> x.cut(0, 4, true));
  }

  private static void cutIsNoRing() {
    GraveRows x = chainOfTen();
    due.is("8 off where it would go round", x.cut(0, 9, false), 0);
    due.is("8 again", x.cut(9, 8, true), 0);
    due.is("8 two ways to one are no ring", x.cut(9, 0, true), 1);
    due.is("8 again, of two ways", x.cut(9, 0, true), 0);
    due.is("8 off", x.cut(9, 0, false), 1);
    due.is("8 off again", x.cut(9, 0, false), 0);
    due.is("8 one step goes", x.cut(5, 4, false), 1);
    due.is("8 what would have gone round does not", x.cut(0, 9, true), 1);
    due.is("8 but now the step that went would", x.cut(5, 4, true), Due.RING);
    GraveRows y = States.graves(3);
    y.cut(0, 2, true);
    y.cut(2, 1, true);
    due.is("8 round by the last grave", y.cut(1, 0, true), Due.RING);
    y.fill();
    due.is("8 not round without it", y.cut(1, 0, true), 1);
    GraveRows most = States.graves(10);
    for (int g = 0; g < 10; g++) {
      for (int other = 0; other < g; other++) {
        due.is("8 all that are no ring", most.cut(g, other, true), 1);
      }
    }
    due.is("8 as many as there can be", most.told(1), 45);
  }

  private static void laterBeyond() {
    twins.graves("9 grave", (x, v) -> x.later(v, 0));
    twins.graves("9 other", (x, v) -> x.later(0, v));
    twins.refused("9 both beyond", States::rich, Due.BEYOND, x -> x.later(5, 5));
  }

  private static void laterEdges() {
    GraveRows x = chainOfTen();
    for (int g = 0; g < 10; g++) {
      due.is("9 not than itself", x.later(g, g), 0);
      due.is("9 the last one by steps, and itself not", x.later(9, g), g == 9 ? 0 : 1);
      due.is("9 the first one never", x.later(0, g), 0);
    }
    x.cut(9, 8, false);
    due.is("9 the cut is gone", x.later(9, 0), 0);
    due.is("9 all others are as they were", x.later(8, 0), 1);
  }

  private static void fillNone() {
    twins.refused("10 none", GraveRows::new, Due.NONE, GraveRows::fill);
    twins.refused("10 none any more", States::empty, Due.NONE, GraveRows::fill);
  }

  private static void fillFromFull() {
    GraveRows x = States.graves(10);
    for (int left = 9; left >= 0; left--) {
      due.is("10 how many there are", x.fill(), left);
      due.is("10 the last one is gone", x.of(left, 0), Due.BEYOND);
    }
    due.is("10 the first one again", x.grave(0, 0, 0), 0);
  }

  private static void fillTakesCutsAndMarks() {
    GraveRows x = chainOfTen();
    x.cut(9, 0, true);
    for (int m = 0; m < 6; m++) {
      x.mark(9, m, true);
    }
    x.tell(9);
    x.goods(9, 4095);
    x.span(9, 1, 2);
    due.is("10 ten cuts", x.told(1), 10);
    x.fill();
    due.is("10 its two cuts are gone", x.told(1), 8);
    due.is("10 the numbers that wait stay", x.told(3), 1);
    due.is("10 none has its goods", x.used(0, false), Due.NONE);
    x.grave(3, 0, 0);
    due.is("10 a new one has no cuts", x.of(9, 6), 0);
    due.is("10 a new one has no goods", x.of(9, 3), 0);
    due.is("10 a new one has all years, first", x.of(9, 4), -5000);
    due.is("10 a new one has all years, last", x.of(9, 5), 5000);
    due.is("10 a new one has no marks", x.share(9, false), 1);
    for (int m = 0; m < 6; m++) {
      due.is("10 mark " + m + " was not told", x.mark(9, m, false), 1);
    }
    GraveRows cutByMany = States.graves(10);
    for (int g = 0; g < 9; g++) {
      cutByMany.cut(g, 9, true);
    }
    cutByMany.fill();
    due.is("10 the cuts of it are gone", cutByMany.told(1), 0);
    cutByMany.grave(0, 0, 0);
    due.is("10 and do not come again", cutByMany.of(9, 7), 0);
  }
}
