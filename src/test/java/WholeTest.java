/** Promises 37 to 39. */
public final class WholeTest {
  private static final Due due = new Due();

  public static void main(String[] args) {
    keepAndBack();
    keptAnew();
    keptNothing();
    told();
    due.end();
  }

  private static void keepAndBack() {
    GraveRows x = new GraveRows();
    due.is("38 nothing kept", x.back(), Due.NONE);
    x.grave(3, 7, 8);
    x.grave(0, 9, 9);
    x.goods(0, 5);
    x.span(0, 10, 20);
    x.cut(0, 1, true);
    x.mark(0, 2, true);
    x.weigh(2, true, 13);
    x.tell(1);
    x.tell(0);
    x.sheet(0, 8, 1);
    due.is("37 graves", x.keep(), 2);
    x.sheet(0, 8, 2);
    x.put(0, 1, 1);
    for (int round = 0; round < 2; round++) {
      changeAll(x);
      due.is("38 graves", x.back(), 2);
      int[] first = {3, 7, 8, 5, 10, 20, 1, 0};
      for (int what = 0; what < 8; what++) {
        due.is("38 of " + what, x.of(0, what), first[what]);
      }
      due.is("38 cuts", x.told(1), 1);
      due.is("38 numbers that wait", x.told(3), 2);
      due.is("38 marks and weights of a man", x.share(0, true), 13);
      due.is("38 marks of a woman", x.share(0, false), 11);
      due.is("38 the mark that was not told", x.mark(0, 4, true), 1);
      due.is("38 the other one's goods", x.of(1, 3), 0);
      due.is("38 the row is told as it was", x.check(), 0);
    }
    due.is("37 sheets are not kept", x.read(1, 0), 1);
    due.is("37 sheets are not kept", x.of(1, 3), 2);
    due.is("37 findings are not kept", x.told(2), 3);
  }

  private static void changeAll(GraveRows x) {
    x.cut(0, 1, false);
    x.goods(0, 1);
    x.goods(1, 1);
    x.span(0, 0, 5);
    x.mark(0, 2, false);
    x.mark(0, 3, false);
    x.weigh(2, true, 1);
    x.check();
    x.tell(4);
    x.tell(4);
    x.tell(4);
    x.fill();
    x.fill();
    x.grave(2, 1, 1);
    x.grave(2, 2, 2);
    x.grave(2, 3, 3);
    x.as(9, 9);
  }

  private static void keptAnew() {
    GraveRows x = Due.withGraves(1);
    x.keep();
    x.grave(0, 0, 0);
    due.is("37 in place of what was", x.keep(), 2);
    x.fill();
    x.fill();
    due.is("38 the latest", x.back(), 2);
    x.goods(0, 7);
    due.is("38 what is kept stays", x.back(), 2);
    due.is("38 what is kept stays", x.of(0, 3), 0);
  }

  private static void keptNothing() {
    GraveRows x = new GraveRows();
    due.is("37 no graves", x.keep(), 0);
    x.grave(0, 0, 0);
    due.is("38 no graves", x.back(), 0);
    due.is("38 no finding", x.told(2), 0);
  }

  private static void told() {
    GraveRows x = Due.withGraves(3);
    x.cut(0, 1, true);
    x.cut(0, 2, true);
    x.tell(9);
    due.is("39 graves", x.told(0), 3);
    due.is("39 cuts", x.told(1), 2);
    due.is("39 findings", x.told(2), 0);
    due.is("39 numbers", x.told(3), 1);
    due.is("39 another what", x.told(4), Due.BEYOND);
    due.is("39 this one, too", x.told(2), 1);
    for (int far : Due.FAR) {
      due.is("39 far", x.told(far), Due.BEYOND);
    }
    due.is("39 each", x.told(2), 4);
    x.share(9, true);
    x.wrong();
    x.check();
    x.back();
    due.is("39 of a long, none of a -1", x.told(2), 6);
  }
}
