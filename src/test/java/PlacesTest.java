/** Promises 29 to 36. */
public final class PlacesTest {
  private static final Due due = new Due();

  public static void main(String[] args) {
    family();
    families();
    like();
    nearest();
    mark();
    weigh();
    share();
    people();
    due.end();
  }

  private static GraveRows atPlaces(int... xy) {
    GraveRows x = new GraveRows();
    for (int i = 0; i < xy.length; i += 2) {
      x.grave(0, xy[i], xy[i + 1]);
    }
    return x;
  }

  private static void family() {
    GraveRows x = atPlaces(50, 50, 0, 0, 40, 45, 30, 55, 31, 99);
    due.is("29 by steps", x.family(3, 10), 0);
    due.is("29 one step", x.family(2, 10), 0);
    due.is("29 too far", x.family(3, 9), 3);
    due.is("29 alone", x.family(1, 10), 1);
    due.is("29 x alone is not enough", x.family(4, 10), 4);
    due.is("29 all", x.family(1, 99), 0);
    due.is("29 no grave", x.family(5, 10), Due.BEYOND);
    due.is("29 distance", x.family(0, 100), Due.BEYOND);
    due.is("29 one place", atPlaces(3, 3, 3, 3).family(1, 0), 0);
    due.is("29 the corners", atPlaces(0, 99, 99, 0).family(1, 99), 0);
    due.is("29 nearly", atPlaces(0, 99, 99, 0).family(1, 98), 1);
    GraveRows chain = atPlaces(0, 0, 90, 90, 10, 10, 80, 80, 20, 20, 70, 70, 30, 30, 60, 60, 40, 40, 50, 50);
    due.is("29 a long way", chain.family(1, 10), 0);
    for (int far : Due.FAR) {
      due.is("29 far grave", x.family(far, 10), Due.BEYOND);
      due.is("29 far distance", x.family(0, far), Due.BEYOND);
    }
  }

  private static void families() {
    GraveRows x = atPlaces(50, 50, 0, 0, 40, 45, 30, 55, 31, 99);
    due.is("30 ten", x.families(10), 3);
    due.is("30 nine", x.families(9), 5);
    due.is("30 all", x.families(99), 1);
    due.is("30 none", x.families(0), 5);
    due.is("30 no graves", new GraveRows().families(0), 0);
    due.is("30 beyond", x.families(100), Due.BEYOND);
    for (int far : Due.FAR) {
      due.is("30 far", x.families(far), Due.BEYOND);
    }
  }

  private static void like() {
    GraveRows x = Due.withGoods(0, 0, 0b1111, 0b0011, 0b110000, 0b111000);
    int[][] want = {
      {0, 1, 0, 1}, {0, 0, 0, 1}, {2, 3, 1, 2}, {3, 2, 1, 2}, {2, 2, 1, 1}, {2, 4, 0, 1}, {4, 5, 2, 3}, {0, 2, 0, 1},
      {2, 5, 1, 6},
    };
    for (int[] row : want) {
      due.is("31 above " + row[0] + " " + row[1], x.like(row[0], row[1], false), row[2]);
      due.is("31 below " + row[0] + " " + row[1], x.like(row[0], row[1], true), row[3]);
    }
    due.is("31 beyond", x.like(6, 0, true), Due.BEYOND);
    due.is("31 beyond", x.like(0, 6, true), Due.BEYOND);
    for (int far : Due.FAR) {
      due.is("31 far", x.like(far, 0, true), Due.BEYOND);
      due.is("31 far other", x.like(0, far, false), Due.BEYOND);
    }
    due.is("31 one good in each", Due.withGoods(1, 1).like(0, 1, false), 1);
    due.is("31 one good in each", Due.withGoods(1, 1).like(0, 1, true), 1);
    GraveRows robbed = new GraveRows();
    robbed.grave(1, 0, 0);
    robbed.grave(0, 0, 0);
    robbed.goods(1, 1);
    due.is("31 that it may have it does not count", robbed.like(0, 1, false), 0);
  }

  private static void nearest() {
    GraveRows x = Due.withGoods(0b0011, 0b1000, 0b1111, 0b0001, 0b0111);
    due.is("32 most", x.nearest(0), 4);
    due.is("32 most of 2", x.nearest(2), 4);
    due.is("32 most of 3", x.nearest(3), 0);
    due.is("32 most of 1", x.nearest(1), 2);
    due.is("32 of several the least", Due.withGoods(1, 2, 4).nearest(0), 1);
    due.is("32 of several the least", Due.withGoods(1, 2, 4).nearest(2), 0);
    due.is("32 as a fraction", Due.withGoods(0b1111, 0b0011, 0b111111).nearest(0), 2);
    due.is("32 two graves", Due.withGraves(2).nearest(0), 1);
    due.is("32 two graves", Due.withGraves(2).nearest(1), 0);
    due.is("32 no other", Due.withGraves(1).nearest(0), Due.NONE);
    due.is("32 beyond ahead of none", Due.withGraves(1).nearest(1), Due.BEYOND);
    for (int far : Due.FAR) {
      due.is("32 far", x.nearest(far), Due.BEYOND);
    }
  }

  private static void mark() {
    GraveRows x = Due.withGraves(2);
    for (int m = 0; m < 6; m++) {
      due.is("33 new", x.mark(0, m, m % 2 == 0), 1);
      due.is("33 again", x.mark(0, m, m % 2 == 0), 0);
    }
    due.is("33 of the other one", x.mark(1, 0, false), 1);
    due.is("33 no grave", x.mark(2, 0, true), Due.BEYOND);
    due.is("33 no mark", x.mark(0, 6, true), Due.BEYOND);
    for (int far : Due.FAR) {
      due.is("33 far grave", x.mark(far, 0, true), Due.BEYOND);
      due.is("33 far mark", x.mark(0, far, true), Due.BEYOND);
    }
  }

  private static void weigh() {
    GraveRows x = new GraveRows();
    due.is("34 at first", x.weigh(5, true, 20), 10);
    due.is("34 then", x.weigh(5, true, 1), 20);
    due.is("34 the woman's stays", x.weigh(5, false, 7), 10);
    due.is("34 the man's stays", x.weigh(5, true, 2), 1);
    due.is("34 v 0", x.weigh(5, true, 0), Due.BEYOND);
    due.is("34 v 21", x.weigh(5, true, 21), Due.BEYOND);
    due.is("34 no mark", x.weigh(6, true, 1), Due.BEYOND);
    for (int far : Due.FAR) {
      due.is("34 far mark", x.weigh(far, false, 1), Due.BEYOND);
      due.is("34 far v", x.weigh(0, false, far), Due.BEYOND);
    }
    due.is("34 findings change nothing", x.weigh(5, true, 2), 2);
  }

  private static void share() {
    GraveRows x = new GraveRows();
    x.grave(0, 0, 0);
    x.grave(2, 0, 0);
    due.is("35 no marks", x.share(0, true), 1);
    x.weigh(0, true, 15);
    x.weigh(0, false, 4);
    x.mark(0, 0, true);
    due.is("35 told as a man", x.share(0, true), 15);
    due.is("35 told as a man", x.share(0, false), 17);
    x.mark(0, 0, false);
    due.is("35 told latest as a woman", x.share(0, true), 6);
    due.is("35 told latest as a woman", x.share(0, false), 4);
    for (int m = 0; m < 6; m++) {
      x.mark(0, m, true);
      x.weigh(m, true, 20);
      x.weigh(m, false, 1);
    }
    due.is("35 the greatest", x.share(0, true), 64000000);
    due.is("35 the greatest of the other", x.share(0, false), 64000000);
    x.mark(0, 5, false);
    due.is("35 one as a woman", x.share(0, true), 3200000);
    due.is("35 one as a woman", x.share(0, false), 3200000);
    due.is("35 double", x.share(1, true), Due.KIND);
    due.is("35 no grave", x.share(2, true), Due.BEYOND);
    for (int far : Due.FAR) {
      due.is("35 far", x.share(far, false), Due.BEYOND);
    }
  }

  private static void people() {
    GraveRows x = new GraveRows();
    for (int kind : new int[] {0, 1, 2, 3, 0}) {
      x.grave(kind, 0, 0);
    }
    due.is("36 no marks", x.people(2), 5);
    x.weigh(0, true, 15);
    x.weigh(0, false, 15);
    x.mark(0, 0, true);
    x.mark(1, 0, false);
    x.mark(2, 0, true);
    x.mark(3, 0, true);
    due.is("36 men", x.people(0), 2);
    due.is("36 women", x.people(1), 1);
    due.is("36 neither's: one without marks, one double", x.people(2), 2);
    due.is("36 no graves", new GraveRows().people(0), 0);
    due.is("36 another what", x.people(3), Due.BEYOND);
    for (int far : Due.FAR) {
      due.is("36 far", x.people(far), Due.BEYOND);
    }
  }
}
