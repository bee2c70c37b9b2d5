/** The boundary cases of promises 25 to 28, each by itself. */
public final class YearsEdgeTest {
  private static final Due due = new Due();
  private static final Twins twins = new Twins(due);

  public static void main(String[] args) {
    yearBeyond();
    yearEdges();
    yearBySteps();
    wrongNone();
    wrongEdges();
    inBeyond();
    inEdges();
    usedBeyond();
    usedNone();
    usedEdges();
    due.end();
  }

  private static void yearBeyond() {
    twins.graves("25 earliest", (x, v) -> x.year(v, false));
    twins.graves("25 latest", (x, v) -> x.year(v, true));
  }

  /** Grave 1 CUTS grave 0. */
  private static GraveRows pair(int from0, int to0, int from1, int to1) {
    GraveRows x = States.graves(2);
    x.cut(1, 0, true);
    x.span(0, from0, to0);
    x.span(1, from1, to1);
    return x;
  }

  private static void yearEdges() {
    due.is("25 own first year, greater by one", pair(10, 90, 11, 80).year(1, false), 11);
    due.is("25 the same first year", pair(10, 90, 10, 80).year(1, false), 10);
    due.is("25 first year of the one that it cuts, greater by one", pair(11, 90, 10, 80).year(1, false), 11);
    due.is("25 not of the one that cuts it", pair(10, 90, 20, 80).year(0, false), 10);
    due.is("25 own last year, less by one", pair(10, 79, 10, 80).year(0, true), 79);
    due.is("25 the same last year", pair(10, 80, 10, 80).year(0, true), 80);
    due.is("25 last year of the one that cuts it, less by one", pair(10, 81, 10, 80).year(0, true), 80);
    due.is("25 not of the one that it cuts", pair(10, 70, 10, 80).year(1, true), 80);
    due.is("25 the greatest EARLIEST", pair(5000, 5000, -5000, 5000).year(1, false), 5000);
    due.is("25 the least LATEST", pair(-5000, 5000, -5000, -5000).year(0, true), -5000);
    due.is("25 the least EARLIEST", States.graves(1).year(0, false), -5000);
    due.is("25 the greatest LATEST", States.graves(1).year(0, true), 5000);
  }

  private static void yearBySteps() {
    GraveRows x = States.graves(10);
    for (int g = 1; g < 10; g++) {
      x.cut(g, g - 1, true);
    }
    x.span(0, 77, 5000);
    x.span(9, -5000, 88);
    for (int g = 0; g < 10; g++) {
      due.is("25 through all ten, earliest " + g, x.year(g, false), 77);
      due.is("25 through all ten, latest " + g, x.year(g, true), 88);
    }
    x.cut(5, 4, false);
    due.is("25 the cut is gone, earliest", x.year(9, false), -5000);
    due.is("25 the cut is gone, latest", x.year(0, true), 5000);
    due.is("25 below it", x.year(4, false), 77);
    due.is("25 above it", x.year(5, true), 88);
  }

  private static void wrongNone() {
    GraveRows x = new GraveRows();
    due.is("26 no graves", x.wrong(), -1);
    due.is("26 no finding", x.told(2), 0);
    GraveRows ten = States.graves(10);
    due.is("26 none of ten", ten.wrong(), -1);
    due.is("26 no finding of ten", ten.told(2), 0);
  }

  private static void wrongEdges() {
    due.is("26 the same year is enough", pair(50, 90, 10, 50).wrong(), -1);
    due.is("26 one above", pair(51, 90, 10, 50).wrong(), 0);
    due.is("26 at the least years", pair(-5000, 0, -5000, -5000).wrong(), -1);
    due.is("26 one above the least", pair(-4999, 0, -5000, -5000).wrong(), 0);
    due.is("26 at the greatest years", pair(5000, 5000, 0, 5000).wrong(), -1);
    due.is("26 one below the greatest", pair(5000, 5000, 0, 4999).wrong(), 0);
    GraveRows last = States.graves(10);
    last.cut(9, 8, true);
    last.span(8, 60, 90);
    last.span(9, 10, 59);
    due.is("26 the first of the two", last.wrong(), 8);
    last.fill();
    due.is("26 not without the last one", last.wrong(), -1);
    GraveRows middle = States.graves(3);
    middle.cut(2, 1, true);
    middle.cut(1, 0, true);
    middle.span(0, 60, 90);
    middle.span(2, 10, 59);
    due.is("26 the first of three", middle.wrong(), 0);
  }

  private static void inBeyond() {
    twins.range("27 year", States::rich, -5000, 5000, (x, v) -> x.in(v));
    twins.range("27 year, no graves", States::empty, -5000, 5000, (x, v) -> x.in(v));
  }

  private static void inEdges() {
    due.is("27 no graves", new GraveRows().in(0), 0);
    due.is("27 all ten, the least year", States.graves(10).in(-5000), 10);
    due.is("27 all ten, the greatest year", States.graves(10).in(5000), 10);
    GraveRows x = States.graves(1);
    x.span(0, 10, 20);
    int[] years = {9, 10, 15, 20, 21};
    int[] want = {0, 1, 1, 1, 0};
    for (int i = 0; i < years.length; i++) {
      due.is("27 in " + years[i], x.in(years[i]), want[i]);
    }
    GraveRows tight = pair(10, 90, 5, 20);
    due.is("27 EARLIEST counts, not the SPAN", tight.in(9), 0);
    due.is("27 both from EARLIEST on", tight.in(10), 2);
    due.is("27 both up to LATEST", tight.in(20), 2);
    due.is("27 LATEST counts, not the SPAN", tight.in(21), 0);
    GraveRows never = pair(51, 90, 10, 50);
    due.is("27 what can't be, first", never.in(50), 0);
    due.is("27 what can't be, last", never.in(51), 0);
  }

  private static void usedBeyond() {
    for (boolean latest : new boolean[] {false, true}) {
      twins.outside("28 good", States::rich, 0, 11, (x, v) -> x.used(v, latest));
      twins.outside("28 good, ahead of none", States::empty, 0, 11, (x, v) -> x.used(v, latest));
      twins.allowed("28 the first good", States::rich, 0, (x, v) -> x.used(v, latest));
      twins.allowed("28 the last good", States::rich, 11, (x, v) -> x.used(v, latest));
    }
  }

  private static void usedNone() {
    for (boolean latest : new boolean[] {false, true}) {
      for (int good = 0; good < 12; good++) {
        int g = good;
        twins.refused("28 no graves, good " + good, States::empty, Due.NONE, x -> x.used(g, latest));
        twins.refused("28 none of ten has good " + good, () -> States.busy(10), Due.NONE, x -> x.used(g, latest));
      }
      twins.refused("28 a robbed one that may have it", () -> States.busyOfKind(1), Due.NONE, x -> x.used(0, latest));
      twins.refused("28 a treasure that may have it", () -> States.busyOfKind(3), Due.NONE, x -> x.used(0, latest));
    }
    GraveRows gone = Due.withGoods(0, 1);
    gone.fill();
    due.is("28 the one that had it is gone", gone.used(0, true), Due.NONE);
  }

  private static void usedEdges() {
    GraveRows ten = States.graves(10);
    ten.goods(9, 2048);
    due.is("28 the last of ten, earliest", ten.used(11, false), -5000);
    due.is("28 the last of ten, latest", ten.used(11, true), 5000);
    ten.span(9, 5000, 5000);
    due.is("28 the greatest EARLIEST", ten.used(11, false), 5000);
    ten.span(9, -5000, -5000);
    due.is("28 the least LATEST", ten.used(11, true), -5000);
    GraveRows two = pair(10, 90, 5, 20);
    two.goods(1, 1);
    due.is("28 EARLIEST counts, not the SPAN", two.used(0, false), 10);
    two.goods(1, 0);
    two.goods(0, 1);
    due.is("28 LATEST counts, not the SPAN", two.used(0, true), 20);
    GraveRows apart = States.graves(2);
    apart.goods(0, 1);
    apart.goods(1, 1);
    apart.span(0, 10, 30);
    apart.span(1, 11, 31);
    due.is("28 the least EARLIEST", apart.used(0, false), 10);
    due.is("28 the greatest LATEST", apart.used(0, true), 31);
    apart.goods(0, 0);
    due.is("28 only of those that have it", apart.used(0, false), 11);
  }
}
