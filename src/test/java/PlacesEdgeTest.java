/** The boundary cases of promises 29 to 36, each by itself. */
public final class PlacesEdgeTest {
  private static final Due due = new Due();
  private static final Twins twins = new Twins(due);

  public static void main(String[] args) {
    familyBeyond();
    familiesBeyond();
    distanceEdges();
    familyBySteps();
    likeBeyond();
    likeEdges();
    nearestBeyond();
    nearestNone();
    nearestOfSeveral();
    markBeyond();
    markToldLatest();
    weighBeyond();
    shareBeyond();
    shareKind();
    shareEdges();
    peopleBeyond();
    peopleEdges();
    due.end();
  }

  private static void familyBeyond() {
    twins.graves("29 grave", (x, v) -> x.family(v, 0));
    twins.range("29 distance", States::rich, 0, 99, (x, v) -> x.family(4, v));
    twins.refused("29 neither grave nor distance", States::rich, Due.BEYOND, x -> x.family(5, 100));
  }

  private static void familiesBeyond() {
    twins.range("30 distance", States::rich, 0, 99, (x, v) -> x.families(v));
    twins.range("30 distance, no graves", States::empty, 0, 99, (x, v) -> x.families(v));
    due.is("30 no graves", new GraveRows().families(99), 0);
    due.is("30 one grave", States.graves(1).families(0), 1);
    due.is("30 ten at one place", States.graves(10).families(0), 1);
    GraveRows ten = new GraveRows();
    for (int g = 0; g < 10; g++) {
      ten.grave(0, g, 0);
    }
    due.is("30 ten by themselves", ten.families(0), 10);
    due.is("30 ten together", ten.families(1), 1);
  }

  private static GraveRows two(int x0, int y0, int x1, int y1) {
    GraveRows x = new GraveRows();
    x.grave(0, x0, y0);
    x.grave(0, x1, y1);
    return x;
  }

  private static void distanceEdges() {
    for (int distance = 0; distance < 99; distance++) {
      int near = distance;
      int far = distance + 1;
      GraveRows[] together = {two(0, 0, near, near), two(near, 0, 0, near), two(99, 99, 99 - near, 99)};
      for (GraveRows x : together) {
        due.is("29 just as far, " + distance, x.family(1, distance), 0);
        due.is("30 just as far, " + distance, x.families(distance), 1);
      }
      GraveRows[] apart = {two(0, 0, far, 0), two(0, 0, 0, far), two(far, near, 0, 0), two(near, far, 0, 0)};
      for (GraveRows x : apart) {
        due.is("29 one farther, " + distance, x.family(1, distance), 1);
        due.is("30 one farther, " + distance, x.families(distance), 2);
      }
    }
    due.is("29 from corner to corner", two(0, 0, 99, 99).family(1, 99), 0);
    due.is("30 from corner to corner", two(99, 0, 0, 99).families(99), 1);
  }

  private static void familyBySteps() {
    GraveRows x = new GraveRows();
    int[] places = {90, 0, 80, 10, 70, 20, 60, 30, 50, 40};
    for (int place : places) {
      x.grave(0, place, 99 - place);
    }
    for (int g = 0; g < 10; g++) {
      due.is("29 by nine steps", x.family(g, 10), 0);
      due.is("29 none within nine", x.family(g, 9), g);
    }
  }

  private static void likeBeyond() {
    for (boolean below : new boolean[] {false, true}) {
      twins.graves("31 grave", (x, v) -> x.like(v, 0, below));
      twins.graves("31 other", (x, v) -> x.like(0, v, below));
      twins.refused("31 both", States::rich, Due.BEYOND, x -> x.like(-1, 5, below));
    }
  }

  private static void fraction(String what, int goods, int other, int above, int below) {
    GraveRows x = Due.withGoods(goods, other);
    due.is("31 " + what + ", above", x.like(0, 1, false), above);
    due.is("31 " + what + ", below", x.like(0, 1, true), below);
    due.is("31 " + what + ", above, the other way", x.like(1, 0, false), above);
    due.is("31 " + what + ", below, the other way", x.like(1, 0, true), below);
  }

  private static void likeEdges() {
    fraction("none in either", 0, 0, 0, 1);
    fraction("none in one", 0, 4095, 0, 1);
    fraction("none in both", 63, 4032, 0, 1);
    fraction("all in both", 4095, 4095, 1, 1);
    fraction("one in both", 2048, 2048, 1, 1);
    for (int n = 1; n <= 12; n++) {
      int divisor = n;
      while (12 % divisor != 0 || n % divisor != 0) {
        divisor--;
      }
      fraction(n + " by 12", 4095, (1 << n) - 1, n / divisor, 12 / divisor);
    }
    due.is("31 with itself, above", Due.withGoods(7).like(0, 0, false), 1);
    due.is("31 with itself, below", Due.withGoods(7).like(0, 0, true), 1);
    due.is("31 with itself, no goods, above", States.graves(1).like(0, 0, false), 0);
    due.is("31 with itself, no goods, below", States.graves(1).like(0, 0, true), 1);
  }

  private static void nearestBeyond() {
    twins.outsideGraves("32 grave", (x, v) -> x.nearest(v));
    twins.allowed("32 the first of ten", () -> States.busy(10), 0, (x, v) -> x.nearest(v));
    twins.allowed("32 the last of ten", () -> States.busy(10), 9, (x, v) -> x.nearest(v));
  }

  private static void nearestNone() {
    for (int kind = 0; kind < 4; kind++) {
      int k = kind;
      twins.refused("32 no other one, kind " + kind, () -> States.busyOfKind(k), Due.NONE, x -> x.nearest(0));
    }
    twins.refused("32 no grave, ahead of no other one", () -> States.busy(1), Due.BEYOND, x -> x.nearest(1));
    twins.refused("32 no grave below, ahead of no other one", () -> States.busy(1), Due.BEYOND, x -> x.nearest(-1));
    due.is("32 one other", States.graves(2).nearest(0), 1);
    due.is("32 one other, the first", States.graves(2).nearest(1), 0);
  }

  private static void nearestOfSeveral() {
    GraveRows ten = States.graves(10);
    due.is("32 all are like it, of the first", ten.nearest(0), 1);
    due.is("32 all are like it, of the last", ten.nearest(9), 0);
    ten.goods(9, 1);
    ten.goods(0, 1);
    due.is("32 the last one is", ten.nearest(0), 9);
    due.is("32 none of them is", ten.nearest(5), 0);
    due.is("32 one half, twice: the least", Due.withGoods(0b0011, 0b0001, 0b0010).nearest(0), 1);
    due.is("32 2 by 4 is as 1 by 2: the least", Due.withGoods(0b1100, 0b1111, 0b0100).nearest(0), 1);
    due.is("32 1 by 2 is more than 5 by 11", Due.withGoods(0b11111, 0b11111111111, 0b1111100000, 0b111110).nearest(0), 3);
  }

  private static void markBeyond() {
    for (boolean man : new boolean[] {false, true}) {
      twins.graves("33 grave", (x, v) -> x.mark(v, 0, man));
      twins.range("33 mark", States::rich, 0, 5, (x, v) -> x.mark(0, v, man));
      twins.range("33 mark of a double one", States::rich, 0, 5, (x, v) -> x.mark(2, v, man));
      twins.refused("33 neither grave nor mark", States::rich, Due.BEYOND, x -> x.mark(5, 6, man));
    }
  }

  private static void markToldLatest() {
    for (int m = 0; m < 6; m++) {
      GraveRows x = States.graves(10);
      x.weigh(m, true, 20);
      due.is("33 it was not told, mark " + m, x.mark(9, m, false), 1);
      due.is("33 as for a woman", x.share(9, true), 1);
      due.is("33 it was told, though otherwise", x.mark(9, m, true), 0);
      due.is("33 as for a man", x.share(9, true), 20);
      due.is("33 it was told as now", x.mark(9, m, true), 0);
      due.is("33 as for a man still", x.share(9, true), 20);
      due.is("33 other marks were not told", x.mark(9, (m + 1) % 6, true), 1);
      due.is("33 of other graves it was not", x.mark(0, m, true), 1);
    }
  }

  private static void weighBeyond() {
    for (boolean man : new boolean[] {false, true}) {
      twins.range("34 mark", States::rich, 0, 5, (x, v) -> x.weigh(v, man, 1));
      twins.range("34 v", States::rich, 1, 20, (x, v) -> x.weigh(0, man, v));
      twins.range("34 v of the last mark", States::rich, 1, 20, (x, v) -> x.weigh(5, man, v));
      twins.refused("34 neither mark nor v", States::rich, Due.BEYOND, x -> x.weigh(6, man, 0));
      for (int m = 0; m < 6; m++) {
        GraveRows x = new GraveRows();
        due.is("34 at first", x.weigh(m, man, 1), 10);
        due.is("34 the least", x.weigh(m, man, 20), 1);
        due.is("34 the greatest", x.weigh(m, man, 10), 20);
        due.is("34 that of the other stays", x.weigh(m, !man, 5), 10);
      }
    }
  }

  private static void shareBeyond() {
    for (boolean man : new boolean[] {false, true}) {
      twins.outsideGraves("35 grave", (x, v) -> x.share(v, man));
      twins.outside("35 beside a double one", () -> States.busyOfKind(2), 0, 0, (x, v) -> x.share(v, man));
      twins.allowed("35 the first of ten", () -> States.busy(10), 0, (x, v) -> x.share(v, man));
      twins.allowed("35 the last of ten", () -> States.busy(10), 9, (x, v) -> x.share(v, man));
    }
  }

  private static void shareKind() {
    for (boolean man : new boolean[] {false, true}) {
      twins.refused("35 double", States::rich, Due.KIND, x -> x.share(2, man));
      twins.refused("35 double alone", () -> States.busyOfKind(2), Due.KIND, x -> x.share(0, man));
      for (int kind : new int[] {0, 1, 3}) {
        due.is("35 kind " + kind, States.ofKind(kind).share(0, man), 1);
      }
    }
  }

  private static GraveRows allMarks(boolean man, int weight) {
    GraveRows x = States.graves(1);
    for (int m = 0; m < 6; m++) {
      x.mark(0, m, man);
      x.weigh(m, true, weight);
      x.weigh(m, false, weight);
    }
    return x;
  }

  private static void shareEdges() {
    due.is("35 all as a man, the greatest", allMarks(true, 20).share(0, true), 64000000);
    due.is("35 all as a man, 21 less the greatest", allMarks(true, 20).share(0, false), 1);
    due.is("35 all as a man, the least", allMarks(true, 1).share(0, true), 1);
    due.is("35 all as a man, 21 less the least", allMarks(true, 1).share(0, false), 64000000);
    due.is("35 all as a woman, the greatest", allMarks(false, 20).share(0, false), 64000000);
    due.is("35 all as a woman, 21 less the greatest", allMarks(false, 20).share(0, true), 1);
    due.is("35 all as a woman, the least", allMarks(false, 1).share(0, false), 1);
    due.is("35 all as a woman, 21 less the least", allMarks(false, 1).share(0, true), 64000000);
    due.is("35 no marks, man", States.graves(1).share(0, true), 1);
    due.is("35 no marks, woman", States.graves(1).share(0, false), 1);
    GraveRows one = States.graves(1);
    one.mark(0, 5, true);
    due.is("35 one mark, weights as at first", one.share(0, true), 10);
    due.is("35 one mark, 21 less the one at first", one.share(0, false), 11);
    one.weigh(0, true, 20);
    due.is("35 a mark that is not told does not count", one.share(0, true), 10);
  }

  private static void peopleBeyond() {
    twins.range("36 what", States::rich, 0, 2, (x, v) -> x.people(v));
    twins.range("36 what, no graves", States::empty, 0, 2, (x, v) -> x.people(v));
  }

  private static void people(String what, GraveRows x, int men, int women, int neithers) {
    due.is("36 " + what + ": men", x.people(0), men);
    due.is("36 " + what + ": women", x.people(1), women);
    due.is("36 " + what + ": neither's", x.people(2), neithers);
  }

  private static void peopleEdges() {
    people("no graves", new GraveRows(), 0, 0, 0);
    people("ten without marks", States.graves(10), 0, 0, 10);
    people("a man's", allMarks(true, 20), 1, 0, 0);
    people("a woman's", allMarks(false, 20), 0, 1, 0);
    GraveRows same = States.graves(1);
    same.mark(0, 0, true);
    same.weigh(0, true, 11);
    people("11 and 21 less 10 are the same", same, 0, 0, 1);
    same.weigh(0, true, 12);
    people("12 and 11", same, 1, 0, 0);
    same.weigh(0, true, 10);
    people("10 and 11", same, 0, 1, 0);
    for (boolean man : new boolean[] {false, true}) {
      GraveRows twice = States.ofKind(2);
      twice.weigh(0, man, 20);
      twice.mark(0, 0, man);
      people("double ones are neither's", twice, 0, 0, 1);
    }
    GraveRows ten = States.graves(10);
    ten.weigh(0, true, 20);
    for (int g = 0; g < 10; g++) {
      ten.mark(g, 0, true);
    }
    people("ten men", ten, 10, 0, 0);
    ten.fill();
    people("nine men", ten, 9, 0, 0);
  }
}
