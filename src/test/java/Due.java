/** Counts the answers that are not as due, and ends the test with exit code 1 if there was one. */
final class Due {
  static final int BEYOND = -100001;
  static final int MISSING = -100002;
  static final int SIZE = -100003;
  static final int KIND = -100004;
  static final int FULL = -100005;
  static final int NONE = -100006;
  static final int RING = -100007;
  static final int LONG = -100008;
  static final int[] FAR = {Integer.MIN_VALUE, -1, Integer.MAX_VALUE};

  private int asked;
  private int wrong;

  void is(String what, long got, long want) {
    asked++;
    if (got != want) {
      wrong++;
      System.out.println(what + ": answered " + got + ", due is " + want);
    }
  }

  void isTrue(String what, boolean holds) {
    is(what, holds ? 1 : 0, 1);
  }

  void end() {
    System.out.println(wrong + " of " + asked + " answers are not as due");
    if (wrong != 0 || asked == 0) {
      System.exit(1);
    }
  }

  static GraveRows withGraves(int n) {
    GraveRows rows = new GraveRows();
    for (int g = 0; g < n; g++) {
      rows.grave(0, 0, 0);
    }
    return rows;
  }

  /** Graves of kind 0 with these goods. */
  static GraveRows withGoods(int... goods) {
    GraveRows rows = withGraves(goods.length);
    for (int g = 0; g < goods.length; g++) {
      rows.goods(g, goods[g]);
    }
    return rows;
  }

  static int checkRow(GraveRows rows, int... row) {
    for (int v : row) {
      rows.tell(v);
    }
    return rows.check();
  }
}
