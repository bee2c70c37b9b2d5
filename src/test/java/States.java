/** States of an object that several tests begin from. */
final class States {
  static final int RICH_GRAVES = 5;

  private States() {}

  static GraveRows graves(int n) {
    return Due.withGraves(n);
  }

  static GraveRows ofKind(int kind) {
    GraveRows x = new GraveRows();
    x.grave(kind, 0, 0);
    return x;
  }

  /**
   * A grave of each kind and one more; goods, spans, cuts, marks and weights that are not those of a
   * new object, three sheets, numbers that wait, and another such state that is kept.
   */
  static GraveRows rich() {
    GraveRows x = new GraveRows();
    for (int kind = 0; kind < 4; kind++) {
      x.grave(kind, 10 * kind, 99 - kind);
    }
    x.goods(0, 0b000000000011);
    x.goods(3, 0b100000000010);
    x.span(1, -40, 70);
    x.cut(3, 1, true);
    x.mark(0, 5, true);
    x.mark(3, 0, false);
    x.weigh(5, true, 17);
    x.tell(1);
    x.keep();
    changed(x);
    sheets(x);
    return x;
  }

  /** Graves without goods, but all else is at hand as in the rich state: what is kept, sheets, weights, numbers that wait. */
  static GraveRows busy(int n) {
    GraveRows x = emptied(rich());
    for (int g = 0; g < n; g++) {
      x.grave(0, 0, 0);
    }
    return x;
  }

  static GraveRows busyOfKind(int kind) {
    GraveRows x = emptied(rich());
    x.grave(kind, 0, 0);
    return x;
  }

  /** No graves, and of all else there is something. */
  static GraveRows empty() {
    return emptied(rich());
  }

  /** As the empty one, but no numbers wait. */
  static GraveRows emptyWithoutNumbers() {
    GraveRows x = rich();
    x.check();
    return emptied(x);
  }

  static GraveRows emptied(GraveRows x) {
    for (int g = x.told(0); g > 0; g--) {
      x.fill();
    }
    return x;
  }

  private static void changed(GraveRows x) {
    x.grave(0, 50, 50);
    x.goods(0, 0b000000000111);
    x.goods(1, 0b000000000100);
    x.goods(2, 0b000000001010);
    x.goods(4, 0b100000001001);
    x.span(0, -300, 200);
    x.span(3, 10, 100);
    x.span(4, -5000, 90);
    x.cut(4, 0, true);
    x.cut(2, 1, true);
    x.cut(4, 2, true);
    x.mark(0, 0, true);
    x.mark(1, 4, false);
    x.weigh(0, true, 3);
    x.weigh(4, false, 19);
    for (int grave : new int[] {0, 2, 3, 4}) {
      x.tell(grave);
    }
  }

  /** 0 of 8 bits, 1 of 16 bits with all twelve numbers, 2 of 32 bits; 3 is MISSING. */
  private static void sheets(GraveRows x) {
    x.sheet(0, 8, 3);
    x.put(0, 1, 9);
    x.sheet(1, 16, 12);
    x.put(1, 0, -1);
    x.put(1, 11, 256);
    x.sheet(2, 32, 5);
    x.put(2, 4, 1 << 30);
  }
}
