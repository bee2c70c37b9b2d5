/** Promises 15 to 24. */
public final class OrdersTest {
  private static final Due due = new Due();

  public static void main(String[] args) {
    order();
    at();
    holes();
    good();
    tell();
    checkPlaces();
    checkCutNotAhead();
    checkCost();
    without();
    ways();
    stretches();
    border();
    freshAfterEachChange();
    freshAfterAllChange();
    due.end();
  }

  /** Good 0 in the graves 0 and 2, which 1, that cannot have it, must stand between. */
  private static GraveRows withOneHole(int kindBetween) {
    GraveRows x = new GraveRows();
    x.grave(0, 0, 0);
    x.grave(kindBetween, 0, 0);
    x.grave(0, 0, 0);
    x.goods(0, 1);
    x.goods(2, 1);
    x.cut(1, 0, true);
    x.cut(2, 1, true);
    return x;
  }

  private static void order() {
    due.is("15 none", new GraveRows().order(), Due.NONE);
    due.is("15 long", Due.withGraves(9).order(), Due.LONG);
    due.is("15 eight", Due.withGraves(8).order(), 0);
    int[] costOfKind = {1, 0, 1, 0};
    for (int kind = 0; kind < 4; kind++) {
      due.is("15 between, kind " + kind, withOneHole(kind).order(), costOfKind[kind]);
    }
    due.is("15 no cuts, no hole", Due.withGoods(1, 0, 1).order(), 0);
    // grave 0 shares a good with each other one: only two can stand beside it
    due.is("15 a star", Due.withGoods(0b111, 0b001, 0b010, 0b100).order(), 1);
    // pairs round a ring of four: one good must go over the two others
    due.is("15 a ring of goods", Due.withGoods(0b0011, 0b0110, 0b1100, 0b1001).order(), 2);
  }

  private static void at() {
    GraveRows x = Due.withGoods(1, 0, 1);
    due.is("16 first of several", x.at(0), 0);
    due.is("16 second", x.at(1), 2);
    due.is("16 third", x.at(2), 1);
    due.is("16 beyond", x.at(3), Due.BEYOND);
    for (int far : Due.FAR) {
      due.is("16 far", x.at(far), Due.BEYOND);
      due.is("16 none ahead of beyond", new GraveRows().at(far), Due.NONE);
      due.is("16 long ahead of beyond", Due.withGraves(9).at(far), Due.LONG);
    }
    x.cut(0, 2, true);
    due.is("16 the cut", x.at(0), 1);
    due.is("16 the cut", x.at(1), 2);
    due.is("16 the cut", x.at(2), 0);
    GraveRows y = Due.withGraves(8);
    for (int g = 0; g < 7; g++) {
      y.cut(g, g + 1, true);
    }
    for (int place = 0; place < 8; place++) {
      due.is("16 backward", y.at(place), 7 - place);
    }
  }

  private static void holes() {
    GraveRows x = withOneHole(0);
    due.is("17 one", x.holes(0), 1);
    due.is("17 good that none has", x.holes(11), 0);
    due.is("17 robbed", withOneHole(1).holes(0), 0);
    due.is("17 treasure", withOneHole(3).holes(0), 0);
    due.is("17 double", withOneHole(2).holes(0), 1);
    x.goods(1, 2);
    due.is("17 one grave alone", x.holes(1), 0);
    due.is("17 beyond", x.holes(12), Due.BEYOND);
    due.is("17 none", new GraveRows().holes(0), Due.NONE);
    due.is("17 long", Due.withGraves(9).holes(0), Due.LONG);
    for (int far : Due.FAR) {
      due.is("17 beyond ahead of none", new GraveRows().holes(far), Due.BEYOND);
      due.is("17 beyond ahead of long", Due.withGraves(9).holes(far), Due.BEYOND);
    }
  }

  private static void good() {
    GraveRows x = withOneHole(1);
    due.is("18 first", x.good(0, false), 0);
    due.is("18 last", x.good(0, true), 2);
    due.is("18 that it may have it does not count", x.good(1, false), Due.NONE);
    x.goods(1, 2);
    due.is("18 one first", x.good(1, false), 1);
    due.is("18 one last", x.good(1, true), 1);
    x.goods(0, 5);
    due.is("18 at the first place alone", x.good(2, true), 0);
    due.is("18 beyond", x.good(12, false), Due.BEYOND);
    due.is("18 no graves", new GraveRows().good(0, false), Due.NONE);
    due.is("18 none ahead of long", Due.withGraves(9).good(0, false), Due.NONE);
    due.is("18 long", Due.withGoods(1, 0, 0, 0, 0, 0, 0, 0, 0).good(0, false), Due.LONG);
    for (int far : Due.FAR) {
      due.is("18 far", new GraveRows().good(far, true), Due.BEYOND);
    }
  }

  private static void tell() {
    GraveRows x = new GraveRows();
    for (int i = 1; i <= 12; i++) {
      due.is("19 waits", x.tell(i * 1000000 - 7000000), i);
    }
    due.is("19 full", x.tell(0), Due.FULL);
    due.is("19 count", x.told(3), 12);
    due.is("19 gone with check", x.check(), Due.NONE);
    due.is("19 none wait", x.told(3), 0);
    due.is("19 again", x.tell(Integer.MIN_VALUE), 1);
  }

  private static void checkPlaces() {
    GraveRows x = Due.withGraves(3);
    due.is("20 right", Due.checkRow(x, 2, 0, 1), 0);
    due.is("20 nothing told", Due.checkRow(x), -1);
    due.is("20 missing", Due.checkRow(x, 2, 0), -3);
    due.is("20 no grave", Due.checkRow(x, 2, 3, 0), -2);
    due.is("20 no grave", Due.checkRow(x, 2, -1, 0), -2);
    for (int far : Due.FAR) {
      due.is("20 far", Due.checkRow(x, far), -1);
    }
    due.is("20 twice", Due.checkRow(x, 2, 1, 2), -3);
    due.is("20 more", Due.checkRow(x, 2, 1, 0, 0), -12);
    due.is("20 many more", Due.checkRow(x, 2, 1, 0, 9, 9, 9, 9, 9, 9, 9, 9, 9), -12);
    due.is("20 the first place, though more were told", Due.checkRow(x, 2, 2, 0, 1), -2);
    x.cut(0, 1, true);
    x.cut(1, 2, true);
    due.is("20 keeps all cuts", Due.checkRow(x, 2, 1, 0), 0);
    due.is("20 the one ahead is told", Due.checkRow(x, 2, 0, 1), -2);
    due.is("20 from one to the next", Due.checkRow(x, 0, 2), -1);
    due.is("20 later beyond a wrong number", Due.checkRow(x, 1, 7, 2), -1);
    due.is("20 more that would be earlier", Due.checkRow(x, 2, 1, 0, 2), -12);
    due.is("20 no findings", x.told(2), 0);
    due.is("20 none wait", x.told(3), 0);
    GraveRows ten = Due.withGraves(10);
    due.is("20 ten", Due.checkRow(ten, 9, 8, 7, 6, 5, 4, 3, 2, 1, 0), 0);
    due.is("20 nine of ten", Due.checkRow(ten, 9, 8, 7, 6, 5, 4, 3, 2, 1), -10);
    due.is("20 eleven", Due.checkRow(ten, 9, 8, 7, 6, 5, 4, 3, 2, 1, 0, 5), -12);
  }

  /** A place is wrong where one that its grave CUTS is not ahead, wherever else that one is told, or not at all. */
  private static void checkCutNotAhead() {
    GraveRows two = Due.withGraves(2);
    two.cut(0, 1, true);
    due.is("20 the one that it cuts is not told", Due.checkRow(two, 0), -1);
    due.is("20 it is told behind it", Due.checkRow(two, 0, 1), -1);
    due.is("20 it is told beyond the last place", Due.checkRow(two, 0, 0, 1), -1);
    due.is("20 no grave in its place", Due.checkRow(two, 0, 7), -1);
    due.is("20 it is ahead, then one is missing", Due.checkRow(two, 1), -2);
    two.cut(0, 1, false);
    due.is("20 not cut any more", Due.checkRow(two, 0), -2);
    GraveRows x = Due.withGraves(4);
    x.cut(3, 2, true);
    x.cut(2, 0, true);
    due.is("20 by steps, none of them told", Due.checkRow(x, 3), -1);
    due.is("20 by steps, the one between is not told", Due.checkRow(x, 0, 3), -2);
    due.is("20 the second place", Due.checkRow(x, 1, 2), -2);
    due.is("20 the third place", Due.checkRow(x, 1, 0, 3), -3);
    due.is("20 told twice ahead of the last", Due.checkRow(x, 0, 2, 0, 3), -3);
    due.is("20 all but one", Due.checkRow(x, 0, 2, 3), -4);
    due.is("20 all", Due.checkRow(x, 0, 2, 3, 1), 0);
    x.cut(3, 1, true);
    due.is("20 one of two is not told", Due.checkRow(x, 0, 2, 3), -3);
    due.is("20 one of two is behind", Due.checkRow(x, 0, 2, 3, 1), -3);
    due.is("20 both are ahead", Due.checkRow(x, 0, 1, 2, 3), 0);
    due.is("20 no findings", x.told(2), 0);
    GraveRows ten = Due.withGraves(10);
    ten.cut(8, 9, true);
    due.is("20 ten, the ninth place", Due.checkRow(ten, 0, 1, 2, 3, 4, 5, 6, 7, 8, 9), -9);
    due.is("20 ten, right", Due.checkRow(ten, 0, 1, 2, 3, 4, 5, 6, 7, 9, 8), 0);
  }

  private static void checkCost() {
    GraveRows x = new GraveRows();
    x.grave(0, 0, 0);
    x.grave(0, 0, 0);
    x.grave(1, 0, 0);
    x.grave(2, 0, 0);
    x.goods(0, 0b011);
    x.goods(3, 0b111);
    due.is("20 two holes at a grave, none at a robbed one", Due.checkRow(x, 0, 1, 2, 3), 2);
    due.is("20 no holes", Due.checkRow(x, 1, 0, 2, 3), 0);
    x.goods(1, 0b100);
    due.is("20 it has another one", Due.checkRow(x, 0, 1, 2, 3), 2);
    due.is("20 holes of a third good", Due.checkRow(x, 1, 0, 2, 3), 1);
    due.is("20 behind the last one is no hole", Due.checkRow(x, 0, 3, 1, 2), 0);
    GraveRows y = Due.withGoods(0b01, 0, 0b01, 0b10, 0, 0b10, 0);
    due.is("20 the last one is not at the last place", Due.checkRow(y, 0, 1, 2, 3, 4, 5, 6), 2);
    due.is("20 the first one is not at the first place", Due.checkRow(y, 6, 0, 1, 2, 3, 4, 5), 2);
    due.is("20 goods over one another", Due.checkRow(y, 0, 3, 1, 2, 4, 5, 6), 5);
    GraveRows ten = Due.withGraves(10);
    ten.goods(0, 4095);
    ten.goods(9, 4095);
    due.is("20 all holes", Due.checkRow(ten, 0, 1, 2, 3, 4, 5, 6, 7, 8, 9), 96);
  }

  private static void without() {
    GraveRows ring = Due.withGoods(0b0011, 0b0110, 0b1100, 0b1001);
    for (int good = 0; good < 4; good++) {
      due.is("21 the ring is open", ring.without(good), 0);
    }
    due.is("21 good that none has", ring.without(11), 2);
    due.is("21 nothing is changed", ring.order(), 2);
    due.is("21 one hole", withOneHole(0).without(0), 0);
    due.is("21 another one", withOneHole(0).without(1), 1);
    due.is("21 beyond", ring.without(12), Due.BEYOND);
    due.is("21 none", new GraveRows().without(0), Due.NONE);
    due.is("21 long", Due.withGraves(9).without(0), Due.LONG);
    for (int far : Due.FAR) {
      due.is("21 beyond ahead of none", new GraveRows().without(far), Due.BEYOND);
    }
  }

  private static void ways() {
    due.is("22 none", new GraveRows().ways(), Due.NONE);
    due.is("22 long", Due.withGraves(9).ways(), Due.LONG);
    due.is("22 all", Due.withGraves(8).ways(), 40320);
    due.is("22 one", Due.withGraves(1).ways(), 1);
    due.is("22 together", Due.withGoods(1, 0, 1).ways(), 4);
    due.is("22 cuts", withOneHole(0).ways(), 1);
    GraveRows x = Due.withGraves(4);
    x.cut(0, 1, true);
    x.cut(2, 3, true);
    due.is("22 two cuts", x.ways(), 6);
  }

  private static void stretches() {
    due.is("23 none", new GraveRows().stretches(0), Due.NONE);
    due.is("23 long", Due.withGraves(9).stretches(0), Due.LONG);
    GraveRows x = inGivenOrder(0b0001, 0b0011, 0b0010, 0b1100, 0b1100);
    int[] fewest = {0, 0, 1, 2, 4};
    for (int k = 1; k <= 5; k++) {
      due.is("23 k " + k, x.stretches(k), fewest[k - 1]);
    }
    due.is("23 k 0", x.stretches(0), Due.BEYOND);
    due.is("23 k 6", x.stretches(6), Due.BEYOND);
    for (int far : Due.FAR) {
      due.is("23 far", x.stretches(far), Due.BEYOND);
    }
    due.is("23 one of one", Due.withGraves(1).stretches(1), 0);
    GraveRows backward = Due.withGoods(0b1, 0b10, 0b10);
    backward.cut(0, 1, true);
    backward.cut(1, 2, true);
    due.is("23 backward", backward.stretches(2), 0);
    due.is("24 backward", backward.border(2, 1), 2);
    due.is("23 backward, three", backward.stretches(3), 1);
  }

  private static void border() {
    due.is("24 none", new GraveRows().border(0, 0), Due.NONE);
    due.is("24 long", Due.withGraves(9).border(0, 0), Due.LONG);
    GraveRows x = inGivenOrder(0b0001, 0b0011, 0b0010, 0b1100, 0b1100);
    int[][] begins = {{0}, {0, 3}, {0, 1, 3}, {0, 1, 2, 3}, {0, 1, 2, 3, 4}};
    for (int k = 1; k <= 5; k++) {
      for (int i = 0; i < k; i++) {
        due.is("24 k " + k + " i " + i, x.border(k, i), begins[k - 1][i]);
      }
      due.is("24 no such stretch", x.border(k, k), Due.BEYOND);
      due.is("24 no such stretch", x.border(k, -1), Due.BEYOND);
    }
    due.is("24 k 0", x.border(0, 0), Due.BEYOND);
    due.is("24 k 6", x.border(6, 0), Due.BEYOND);
    for (int far : Due.FAR) {
      due.is("24 far k", x.border(far, 0), Due.BEYOND);
      due.is("24 far i", x.border(3, far), Due.BEYOND);
    }
  }

  /** The graves 0, 1, .. in just this order, by cuts. */
  private static GraveRows inGivenOrder(int... goods) {
    GraveRows x = Due.withGoods(goods);
    for (int g = 1; g < goods.length; g++) {
      x.cut(g, g - 1, true);
    }
    return x;
  }

  /** An answer of an earlier state must not be given again. */
  private static void freshAfterEachChange() {
    GraveRows x = withOneHole(0);
    due.is("15 at first", x.order(), 1);
    x.keep();
    x.goods(1, 1);
    due.is("15 after goods", x.order(), 0);
    x.goods(1, 0);
    due.is("15 after goods", x.order(), 1);
    x.cut(2, 1, false);
    due.is("15 after cut", x.order(), 0);
    x.back();
    due.is("15 after back", x.order(), 1);
    x.sheet(0, 8, 1);
    x.put(0, 0, 1);
    x.read(1, 0);
    due.is("15 after read", x.order(), 0);
    x.back();
    due.is("15 after without", x.without(0) + x.order(), 1);
    x.fill();
    due.is("15 after fill", x.order(), 0);
    x.grave(1, 0, 0);
    due.is("22 after grave", x.ways(), 3);
    GraveRows kinds = withOneHole(0);
    due.is("15 a grave between", kinds.order(), 1);
    kinds.fill();
    kinds.fill();
    kinds.grave(1, 0, 0);
    kinds.grave(0, 0, 0);
    kinds.goods(2, 1);
    kinds.cut(1, 0, true);
    kinds.cut(2, 1, true);
    due.is("15 a robbed one in its place", kinds.order(), 0);
  }

  /** Nothing of what an order hangs on is left as it was, at any grave. */
  private static void freshAfterAllChange() {
    GraveRows goods = Due.withGoods(1, 1);
    due.is("23 goods go on", goods.stretches(2), 1);
    goods.goods(0, 2);
    goods.goods(1, 4);
    due.is("23 all goods are others", goods.stretches(2), 0);
    due.is("18 all goods are others", goods.good(2, false), 1);
    robbedGoodsChange();
    GraveRows cuts = Due.withGraves(2);
    cuts.cut(0, 1, true);
    due.is("16 the one is cut", cuts.at(0), 1);
    cuts.cut(0, 1, false);
    cuts.cut(1, 0, true);
    due.is("16 the other one is", cuts.at(0), 0);
    GraveRows kinds = threeOfKind(0);
    kinds.keep();
    for (int kind : new int[] {1, 2, 3}) {
      due.is("15 three graves", kinds.order(), 1);
      refill(kinds, kind);
      due.is("15 three of kind " + kind, kinds.order(), kind == 2 ? 1 : 0);
      kinds.back();
    }
    due.is("17 three graves again", kinds.holes(0), 1);
  }

  /** No good can be a hole at these, whatever they have, so that nothing but their goods tells a change. */
  private static void robbedGoodsChange() {
    GraveRows x = new GraveRows();
    x.grave(1, 0, 0);
    x.grave(3, 0, 0);
    int[][] goods = {{0, 0}, {3, 3}, {4, 8}, {5, 5}, {0, 0}, {6, 2}, {2, 2}};
    for (int[] pair : goods) {
      x.goods(0, pair[0]);
      x.goods(1, pair[1]);
      due.is("23 robbed ones, goods " + pair[0] + " " + pair[1], x.stretches(2), Integer.bitCount(pair[0] & pair[1]));
    }
  }

  private static GraveRows threeOfKind(int kind) {
    GraveRows x = Due.withGraves(3);
    refill(x, kind);
    return x;
  }

  /** In place of three graves three others in a row by cuts, the one between without the good of the two others. */
  private static void refill(GraveRows x, int kind) {
    for (int g = 0; g < 3; g++) {
      x.fill();
    }
    for (int g = 0; g < 3; g++) {
      x.grave(kind, 0, 0);
    }
    x.goods(0, 1);
    x.goods(2, 1);
    x.cut(1, 0, true);
    x.cut(2, 1, true);
  }
}
