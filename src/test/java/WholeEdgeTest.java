/** The boundary cases of promises 37 to 39, and of what is said of all findings, each by itself. */
public final class WholeEdgeTest {
  private static final Due due = new Due();
  private static final Twins twins = new Twins(due);

  public static void main(String[] args) {
    keepOfNothing();
    keepInPlaceOfWhatWas();
    keepOfAll();
    keepOfEachGrave();
    keepNotOfSheets();
    keepNotOfFindings();
    backNone();
    backTwice();
    toldBeyond();
    toldEdges();
    findingsEver();
    numbersOfFindings();
    due.end();
  }

  private static void keepOfNothing() {
    GraveRows x = new GraveRows();
    due.is("37 no graves", x.keep(), 0);
    x.grave(0, 0, 0);
    x.weigh(0, true, 20);
    x.tell(5);
    due.is("38 no graves, which is no finding", x.back(), 0);
    due.is("38 no finding", x.told(2), 0);
    due.is("38 no numbers wait", x.told(3), 0);
    due.is("38 weights as at first", x.weigh(0, true, 1), 10);
  }

  private static void keepInPlaceOfWhatWas() {
    GraveRows x = States.graves(10);
    due.is("37 ten", x.keep(), 10);
    for (int g = 0; g < 10; g++) {
      x.fill();
    }
    due.is("37 none, in place of ten", x.keep(), 0);
    due.is("38 none", x.back(), 0);
    for (int g = 0; g < 10; g++) {
      x.grave(0, 0, 0);
    }
    due.is("37 ten, in place of none", x.keep(), 10);
    due.is("38 ten", x.back(), 10);
    due.is("2 full after back", x.grave(0, 0, 0), Due.FULL);
  }

  private static void keepOfAll() {
    GraveRows x = States.graves(10);
    x.goods(9, 4095);
    x.span(9, -5000, -5000);
    x.cut(9, 0, true);
    x.mark(9, 5, true);
    x.weigh(5, true, 20);
    x.weigh(5, false, 1);
    for (int i = 0; i < 12; i++) {
      x.tell(i);
    }
    x.keep();
    for (int g = 0; g < 10; g++) {
      x.fill();
    }
    x.check();
    x.weigh(5, true, 3);
    x.weigh(5, false, 4);
    due.is("38 ten", x.back(), 10);
    due.is("38 goods", x.of(9, 3), 4095);
    due.is("38 first year", x.of(9, 4), -5000);
    due.is("38 last year", x.of(9, 5), -5000);
    due.is("38 cuts", x.told(1), 1);
    due.is("38 which cut", x.cut(9, 0, true), 0);
    due.is("38 mark", x.mark(9, 5, true), 0);
    due.is("38 weight of a man", x.weigh(5, true, 20), 20);
    due.is("38 weight of a woman", x.weigh(5, false, 1), 1);
    due.is("38 twelve numbers wait", x.told(3), 12);
    due.is("38 full of them", x.tell(0), Due.FULL);
    due.is("38 which numbers", x.check(), -12);
  }

  /** Others that are made in place of those that are kept leave nothing behind. */
  private static void keepOfEachGrave() {
    GraveRows x = new GraveRows();
    for (int g = 0; g < 10; g++) {
      x.grave(g % 2, g, g + 20);
      x.goods(g, 3 << g & 4095);
      x.span(g, g - 50, g + 50);
      x.mark(g, g % 6, true);
    }
    x.keep();
    for (int g = 0; g < 10; g++) {
      x.fill();
    }
    for (int g = 0; g < 10; g++) {
      x.grave(3, 99 - g, 0);
      x.goods(g, 2730);
      x.span(g, 1000, 2000);
      for (int other = 0; other < g; other++) {
        x.cut(g, other, true);
      }
      x.mark(g, (g + 1) % 6, false);
    }
    x.back();
    for (int g = 0; g < 10; g++) {
      int[] want = {g % 2, g, g + 20, 3 << g & 4095, g - 50, g + 50, 0, 0};
      for (int what = 0; what < 8; what++) {
        due.is("38 grave " + g + " what " + what, x.of(g, what), want[what]);
      }
      due.is("38 grave " + g + " share of a man", x.share(g, true), 10);
      due.is("38 grave " + g + " mark that was told", x.mark(g, g % 6, true), 0);
      due.is("38 grave " + g + " mark that was not", x.mark(g, (g + 1) % 6, true), 1);
    }
  }

  private static void keepNotOfSheets() {
    GraveRows x = States.graves(1);
    x.sheet(0, 8, 2);
    x.put(0, 0, 1);
    x.keep();
    x.put(0, 1, 1);
    x.sheet(1, 16, 3);
    x.back();
    due.is("37 the numbers stay as they are", x.read(0, 0), 2);
    due.is("37 a sheet that was missing stays", x.put(1, 2, 1), 0);
    x.sheet(0, 0, 0);
    x.back();
    due.is("37 a sheet that is missing stays so", x.put(0, 0, 1), Due.MISSING);
  }

  private static void keepNotOfFindings() {
    GraveRows x = new GraveRows();
    x.keep();
    x.fill();
    x.fill();
    x.back();
    due.is("37 findings stay counted", x.told(2), 2);
    x.keep();
    due.is("37 keep counts none", x.told(2), 2);
    x.fill();
    x.back();
    due.is("37 and one more", x.told(2), 3);
  }

  private static GraveRows neverKept(int n) {
    GraveRows x = new GraveRows();
    for (int g = 0; g < n; g++) {
      x.grave(g % 4, g, 99 - g);
      x.goods(g, 3 << g);
      x.mark(g, 3, false);
    }
    for (int i = 0; i < 12; i++) {
      x.tell(i);
    }
    x.weigh(3, true, 7);
    x.sheet(2, 32, 12);
    x.put(2, 11, -1);
    return x;
  }

  private static void backNone() {
    twins.refused("38 nothing is kept, a new object", GraveRows::new, Due.NONE, GraveRows::back);
    for (int n : new int[] {0, 1, 10}) {
      twins.refused("38 nothing is kept, graves " + n, () -> neverKept(n), Due.NONE, GraveRows::back);
    }
    GraveRows x = new GraveRows();
    x.back();
    x.keep();
    due.is("38 something is kept now", x.back(), 0);
  }

  private static void backTwice() {
    GraveRows x = States.graves(1);
    x.goods(0, 5);
    x.tell(3);
    x.keep();
    for (int round = 0; round < 3; round++) {
      x.goods(0, 6);
      x.tell(4);
      x.mark(0, 0, true);
      x.weigh(0, true, 2);
      x.grave(0, 0, 0);
      due.is("38 which stays, round " + round, x.back(), 1);
      due.is("38 goods, round " + round, x.of(0, 3), 5);
      due.is("38 numbers, round " + round, x.told(3), 1);
      due.is("38 marks, round " + round, x.share(0, true), 1);
      due.is("38 weights, round " + round, x.weigh(0, true, 7), 10);
    }
  }

  private static void toldBeyond() {
    twins.range("39 what", States::rich, 0, 3, (x, v) -> x.told(v));
    twins.range("39 what, nothing there", States::empty, 0, 3, (x, v) -> x.told(v));
    GraveRows x = new GraveRows();
    due.is("39 another what", x.told(4), Due.BEYOND);
    due.is("39 this one, too", x.told(2), 1);
    due.is("39 told(2) itself is none", x.told(2), 1);
  }

  private static void toldEdges() {
    GraveRows x = new GraveRows();
    for (int what = 0; what < 4; what++) {
      due.is("39 nothing there, what " + what, x.told(what), 0);
    }
    for (int g = 0; g < 10; g++) {
      x.grave(0, 0, 0);
      due.is("39 graves", x.told(0), g + 1);
      for (int other = 0; other < g; other++) {
        x.cut(g, other, true);
      }
      due.is("39 cuts", x.told(1), g * (g + 1) / 2);
    }
    for (int i = 0; i < 12; i++) {
      x.tell(i);
      due.is("39 numbers that wait", x.told(3), i + 1);
    }
    for (int g = 9; g >= 0; g--) {
      x.fill();
      due.is("39 fewer graves", x.told(0), g);
      due.is("39 fewer cuts", x.told(1), g * (g - 1) / 2);
    }
    due.is("39 no finding in all this", x.told(2), 0);
  }

  /** As many as an object has calls. */
  private static void findingsEver() {
    GraveRows x = new GraveRows();
    for (int call = 0; call < 511; call++) {
      x.fill();
    }
    due.is("39 all calls but this one", x.told(2), 511);
    GraveRows none = States.graves(1);
    none.wrong();
    none.tell(-100001);
    none.check();
    none.span(0, -5000, -5000);
    none.year(0, true);
    none.cut(0, 0, false);
    due.is("39 answers below 0 that are no findings do not count", none.told(2), 1);
    none.share(1, true);
    due.is("39 one of share, too", none.told(2), 2);
  }

  private static void numbersOfFindings() {
    due.is("BEYOND", new GraveRows().told(4), -100001);
    due.is("MISSING", new GraveRows().put(0, 0, 0), -100002);
    due.is("SIZE", States.graves(1).span(0, 1, 0), -100003);
    due.is("KIND", States.graves(1).coin(0, 0), -100004);
    due.is("FULL", States.graves(10).grave(0, 0, 0), -100005);
    due.is("NONE", new GraveRows().fill(), -100006);
    GraveRows ring = States.graves(2);
    ring.cut(0, 1, true);
    due.is("RING", ring.cut(1, 0, true), -100007);
    due.is("LONG", States.graves(9).order(), -100008);
    due.is("BEYOND as a long", States.graves(1).share(1, true), -100001L);
    due.is("KIND as a long", States.ofKind(2).share(0, true), -100004L);
  }
}
