/** Promises 25 to 28. */
public final class YearsTest {
  private static final Due due = new Due();

  public static void main(String[] args) {
    year();
    wrong();
    in();
    used();
    due.end();
  }

  /** 0 cuts 1, 1 cuts 2. */
  private static GraveRows chain() {
    GraveRows x = Due.withGraves(3);
    x.cut(0, 1, true);
    x.cut(1, 2, true);
    return x;
  }

  private static void year() {
    GraveRows x = chain();
    for (int g = 0; g < 3; g++) {
      due.is("25 all", x.year(g, false), -5000);
      due.is("25 all", x.year(g, true), 5000);
    }
    x.span(2, 100, 400);
    x.span(1, 50, 300);
    x.span(0, 0, 200);
    due.is("25 earliest 0", x.year(0, false), 100);
    due.is("25 earliest 1", x.year(1, false), 100);
    due.is("25 earliest 2", x.year(2, false), 100);
    due.is("25 latest 0", x.year(0, true), 200);
    due.is("25 latest 1", x.year(1, true), 200);
    due.is("25 latest 2", x.year(2, true), 200);
    due.is("25 the span stays", x.of(0, 4), 0);
    due.is("25 the span stays", x.of(2, 5), 400);
    x.span(1, 150, 160);
    due.is("25 own year", x.year(1, false), 150);
    due.is("25 not downward", x.year(2, false), 100);
    due.is("25 not upward", x.year(0, true), 200);
    due.is("25 no grave", x.year(3, false), Due.BEYOND);
    for (int far : Due.FAR) {
      due.is("25 far", x.year(far, true), Due.BEYOND);
    }
  }

  private static void wrong() {
    due.is("26 no graves", new GraveRows().wrong(), -1);
    GraveRows x = chain();
    due.is("26 none", x.wrong(), -1);
    x.span(2, 100, 100);
    x.span(1, 100, 100);
    due.is("26 one year is enough", x.wrong(), -1);
    x.span(2, 101, 200);
    due.is("26 the first one", x.wrong(), 1);
    x.cut(1, 2, false);
    due.is("26 the cut is gone", x.wrong(), -1);
    x.span(1, 300, 400);
    x.span(0, 100, 200);
    due.is("26 grave 0, of two", x.wrong(), 0);
    due.is("26 no findings", x.told(2), 0);
    GraveRows up = Due.withGraves(2);
    up.cut(1, 0, true);
    up.span(0, 10, 50);
    up.span(1, 0, 20);
    due.is("25 grave 0 is cut", up.year(1, false), 10);
    due.is("25 grave 0 is cut", up.year(0, true), 20);
    due.is("26 none", up.wrong(), -1);
  }

  private static void in() {
    due.is("27 no graves", new GraveRows().in(0), 0);
    GraveRows x = chain();
    x.span(2, 100, 400);
    due.is("27 all", x.in(100), 3);
    due.is("27 ahead", x.in(99), 0);
    due.is("27 the last year", x.in(400), 3);
    due.is("27 behind", x.in(401), 2);
    due.is("27 the end", x.in(5000), 2);
    due.is("27 the beginning", x.in(-5000), 0);
    x.span(1, -100, 50);
    due.is("27 what can't be is in no year", x.in(75), 0);
    due.is("27 only the upper one", x.in(100), 1);
    due.is("27 beyond", x.in(5001), Due.BEYOND);
    due.is("27 beyond", x.in(-5001), Due.BEYOND);
    due.is("27 far", x.in(Integer.MIN_VALUE), Due.BEYOND);
    due.is("27 far", x.in(Integer.MAX_VALUE), Due.BEYOND);
  }

  private static void used() {
    GraveRows x = chain();
    x.goods(0, 1);
    x.goods(1, 3);
    x.span(2, 100, 400);
    x.span(1, 150, 300);
    x.span(0, 0, 350);
    due.is("28 earliest", x.used(0, false), 150);
    due.is("28 latest", x.used(0, true), 350);
    due.is("28 of one", x.used(1, true), 300);
    x.goods(2, 4);
    due.is("28 of the last one", x.used(2, false), 100);
    due.is("28 of the last one", x.used(2, true), 300);
    x.goods(0, 9);
    due.is("28 of grave 0 alone", x.used(3, false), 150);
    due.is("28 of grave 0 alone", x.used(3, true), 350);
    due.is("28 none", x.used(4, false), Due.NONE);
    due.is("28 beyond", x.used(12, false), Due.BEYOND);
    for (int far : Due.FAR) {
      due.is("28 far", x.used(far, false), Due.BEYOND);
    }
    due.is("28 no graves", new GraveRows().used(0, false), Due.NONE);
    GraveRows nine = Due.withGoods(0, 0, 0, 0, 0, 0, 0, 0, 8);
    due.is("28 nine graves", nine.used(3, true), 5000);
    GraveRows robbed = new GraveRows();
    robbed.grave(1, 0, 0);
    due.is("28 that it may have it does not count", robbed.used(0, false), Due.NONE);
  }
}
