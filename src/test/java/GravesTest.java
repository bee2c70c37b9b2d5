/** Promises 1 to 10. */
public final class GravesTest {
  private static final Due due = new Due();

  public static void main(String[] args) {
    newObject();
    grave();
    as();
    goods();
    of();
    span();
    coin();
    cut();
    later();
    fill();
    due.end();
  }

  private static void newObject() {
    GraveRows x = new GraveRows();
    for (int what = 0; what < 4; what++) {
      due.is("1 told " + what, x.told(what), 0);
    }
    for (int m = 0; m < 6; m++) {
      due.is("1 man's weight", x.weigh(m, true, 3), 10);
      due.is("1 woman's weight", x.weigh(m, false, 4), 10);
    }
    for (int s = 0; s < 4; s++) {
      due.is("1 sheet missing", x.put(s, 0, 0), Due.MISSING);
    }
    due.is("1 nothing kept", x.back(), Due.NONE);
    due.is("1 another object is not touched", new GraveRows().weigh(0, true, 5), 10);
  }

  private static void grave() {
    GraveRows x = new GraveRows();
    for (int bad : new int[] {Integer.MIN_VALUE, -1, 4, Integer.MAX_VALUE}) {
      due.is("2 kind " + bad, x.grave(bad, 0, 0), Due.BEYOND);
    }
    for (int bad : new int[] {Integer.MIN_VALUE, -1, 100, Integer.MAX_VALUE}) {
      due.is("2 x " + bad, x.grave(0, bad, 0), Due.BEYOND);
      due.is("2 y " + bad, x.grave(0, 0, bad), Due.BEYOND);
    }
    for (int g = 0; g < 10; g++) {
      due.is("2 number", x.grave(g % 4, g * 11, 99 - g * 11), g);
    }
    due.is("2 full", x.grave(0, 0, 0), Due.FULL);
    due.is("2 beyond ahead of full", x.grave(0, 0, 100), Due.BEYOND);
    due.is("2 still ten", x.told(0), 10);
    for (int g = 0; g < 10; g++) {
      due.is("2 kind", x.of(g, 0), g % 4);
      due.is("2 x", x.of(g, 1), g * 11);
      due.is("2 y", x.of(g, 2), 99 - g * 11);
      due.is("2 goods", x.of(g, 3), 0);
      due.is("2 first year", x.of(g, 4), -5000);
      due.is("2 last year", x.of(g, 5), 5000);
      due.is("2 cuts", x.of(g, 6), 0);
      due.is("2 cut by", x.of(g, 7), 0);
    }
  }

  private static void as() {
    boolean[][] isUnder = {
      {true, false, false, false},
      {true, true, false, false},
      {true, false, true, false},
      {true, true, false, true},
    };
    GraveRows x = new GraveRows();
    for (int kind = 0; kind < 4; kind++) {
      x.grave(kind, 0, 0);
    }
    for (int g = 0; g < 4; g++) {
      for (int kind = 0; kind < 4; kind++) {
        due.is("3 " + g + " as " + kind, x.as(g, kind), isUnder[g][kind] ? g : Due.KIND);
      }
      due.is("3 kind 4", x.as(g, 4), Due.BEYOND);
      due.is("3 kind -1", x.as(g, -1), Due.BEYOND);
    }
    due.is("3 no grave", x.as(4, 0), Due.BEYOND);
    for (int far : Due.FAR) {
      due.is("3 far grave", x.as(far, 0), Due.BEYOND);
      due.is("3 far kind", x.as(0, far), Due.BEYOND);
    }
  }

  private static void goods() {
    GraveRows x = Due.withGraves(2);
    due.is("4 first", x.goods(0, 4095), 0);
    due.is("4 second", x.goods(0, 5), 4095);
    due.is("4 bit 12", x.goods(0, 4096), Due.BEYOND);
    due.is("4 below 0", x.goods(0, -1), Due.BEYOND);
    due.is("4 no grave", x.goods(2, 1), Due.BEYOND);
    for (int far : Due.FAR) {
      due.is("4 far grave", x.goods(far, 1), Due.BEYOND);
      due.is("4 far set", x.goods(1, far), Due.BEYOND);
    }
    due.is("4 findings change nothing", x.goods(0, 0), 5);
    due.is("4 the other one", x.of(1, 3), 0);
  }

  private static void of() {
    GraveRows x = new GraveRows();
    x.grave(3, 12, 34);
    x.grave(0, 1, 2);
    x.grave(0, 3, 4);
    x.goods(0, 77);
    x.span(0, -7, 8);
    x.cut(0, 1, true);
    x.cut(0, 2, true);
    x.cut(1, 2, true);
    int[] want = {3, 12, 34, 77, -7, 8, 2, 0};
    for (int what = 0; what < 8; what++) {
      due.is("5 of " + what, x.of(0, what), want[what]);
    }
    due.is("5 cut by two", x.of(2, 7), 2);
    due.is("5 cut by one", x.of(1, 7), 1);
    due.is("5 another what", x.of(0, 8), Due.BEYOND);
    due.is("5 no grave", x.of(3, 0), Due.BEYOND);
    for (int far : Due.FAR) {
      due.is("5 far grave", x.of(far, 0), Due.BEYOND);
      due.is("5 far what", x.of(0, far), Due.BEYOND);
    }
  }

  private static void span() {
    GraveRows x = Due.withGraves(1);
    due.is("6 all", x.span(0, -5000, 5000), 1);
    due.is("6 one year", x.span(0, 5, 5), 1);
    due.is("6 size", x.span(0, 6, 5), Due.SIZE);
    due.is("6 from", x.span(0, -5001, 5), Due.BEYOND);
    due.is("6 from above", x.span(0, 5001, 5), Due.BEYOND);
    due.is("6 to", x.span(0, 5, 5001), Due.BEYOND);
    due.is("6 to below", x.span(0, 5, -5001), Due.BEYOND);
    due.is("6 no grave ahead of size", x.span(1, 6, 5), Due.BEYOND);
    for (int far : Due.FAR) {
      due.is("6 far grave", x.span(far, 0, 0), Due.BEYOND);
    }
    due.is("6 findings change nothing", x.of(0, 4), 5);
    due.is("6 findings change nothing", x.of(0, 5), 5);
  }

  private static void coin() {
    GraveRows x = new GraveRows();
    x.grave(3, 0, 0);
    x.grave(1, 0, 0);
    x.span(0, 10, 50);
    due.is("7 not greater", x.coin(0, 5), 10);
    due.is("7 greater", x.coin(0, 20), 20);
    due.is("7 the last year", x.coin(0, 50), 50);
    due.is("7 above", x.coin(0, 51), Due.SIZE);
    due.is("7 no treasure", x.coin(1, 51), Due.KIND);
    due.is("7 year ahead of kind", x.coin(1, 5001), Due.BEYOND);
    due.is("7 year", x.coin(0, -5001), Due.BEYOND);
    due.is("7 no grave", x.coin(2, 0), Due.BEYOND);
    due.is("7 the first year", x.of(0, 4), 50);
    due.is("7 the last year stays", x.of(0, 5), 50);
    x.span(0, -5000, 5000);
    due.is("7 the least year", x.coin(0, -5000), -5000);
    due.is("7 the greatest year", x.coin(0, 5000), 5000);
  }

  private static void cut() {
    GraveRows x = Due.withGraves(3);
    due.is("8 new", x.cut(0, 1, true), 1);
    due.is("8 again", x.cut(0, 1, true), 0);
    due.is("8 ring of two", x.cut(1, 0, true), Due.RING);
    due.is("8 on", x.cut(1, 2, true), 1);
    due.is("8 ring of three", x.cut(2, 0, true), Due.RING);
    due.is("8 no ring if it goes", x.cut(2, 0, false), 0);
    due.is("8 count", x.told(1), 2);
    due.is("8 off", x.cut(0, 1, false), 1);
    due.is("8 off again", x.cut(0, 1, false), 0);
    due.is("8 no ring any more", x.cut(2, 0, true), 1);
    due.is("8 one", x.cut(1, 1, true), Due.SIZE);
    due.is("8 one, off", x.cut(1, 1, false), Due.SIZE);
    due.is("8 beyond ahead of size", x.cut(3, 3, true), Due.BEYOND);
    due.is("8 other beyond", x.cut(0, 3, true), Due.BEYOND);
    for (int far : Due.FAR) {
      due.is("8 far", x.cut(far, 0, true), Due.BEYOND);
      due.is("8 far other", x.cut(0, far, false), Due.BEYOND);
    }
  }

  private static void later() {
    GraveRows x = Due.withGraves(10);
    for (int g = 9; g > 0; g--) {
      x.cut(g - 1, g, true);
    }
    due.is("9 long chain", x.later(0, 9), 1);
    due.is("9 not back", x.later(9, 0), 0);
    due.is("9 not itself", x.later(4, 4), 0);
    due.is("9 ring through all", x.cut(9, 0, true), Due.RING);
    x.cut(4, 5, false);
    due.is("9 broken", x.later(0, 9), 0);
    due.is("9 ahead of the break", x.later(0, 4), 1);
    due.is("9 beyond", x.later(10, 0), Due.BEYOND);
    due.is("9 beyond", x.later(0, 10), Due.BEYOND);
    for (int far : Due.FAR) {
      due.is("9 far", x.later(far, 0), Due.BEYOND);
      due.is("9 far other", x.later(0, far), Due.BEYOND);
    }
  }

  private static void fill() {
    GraveRows x = new GraveRows();
    due.is("10 none", x.fill(), Due.NONE);
    x.grave(0, 0, 0);
    x.grave(0, 1, 1);
    x.grave(3, 2, 2);
    x.goods(2, 9);
    x.span(2, 1, 2);
    x.mark(2, 3, true);
    x.cut(0, 2, true);
    x.cut(2, 1, true);
    x.cut(0, 1, true);
    due.is("10 two", x.fill(), 2);
    due.is("10 cuts", x.told(1), 1);
    due.is("10 gone", x.of(2, 0), Due.BEYOND);
    due.is("10 new one", x.grave(0, 5, 5), 2);
    due.is("10 not cut", x.of(2, 7), 0);
    due.is("10 cuts none", x.of(2, 6), 0);
    due.is("10 no goods", x.of(2, 3), 0);
    due.is("10 all years", x.of(2, 4), -5000);
    due.is("10 all years", x.of(2, 5), 5000);
    due.is("10 no marks", x.share(2, true), 1);
    due.is("10 mark is new", x.mark(2, 3, false), 1);
  }
}
