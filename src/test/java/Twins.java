import java.util.ArrayList;
import java.util.List;

/**
 * Two objects made by the same calls; one of them gets a call more, which is refused. Then all that
 * can be seen of the two must be the same, but for told(2), which counts the refused call.
 */
final class Twins {
  interface State {
    GraveRows make();
  }

  interface Act {
    long on(GraveRows x);
  }

  interface ActWith {
    long on(GraveRows x, int v);
  }

  /** A look at all of an object takes more calls than one object has, so there are several. */
  private static final int VIEWS = 8;

  private final Due due;

  Twins(Due due) {
    this.due = due;
  }

  void refused(String what, State state, int finding, Act act) {
    refusedAndLikes(what, state, state, finding, act);
  }

  /** After the refused act the one state looks like the other one. */
  void refusedAndLikes(String what, State state, State like, int finding, Act act) {
    for (int view = 0; view < VIEWS; view++) {
      GraveRows asked = state.make();
      GraveRows left = like.make();
      due.is(what, act.on(asked), finding);
      due.is(what + ": counted once", asked.told(2), left.told(2) + 1);
      due.is(what + ": first other answer in view " + view, firstOther(seen(asked, view), seen(left, view)), -1);
    }
  }

  /** What is below the least and above the most is BEYOND; these two themselves are not. */
  void range(String what, State state, int least, int most, ActWith act) {
    outside(what, state, least, most, act);
    allowed(what, state, least, act);
    allowed(what, state, most, act);
  }

  void outside(String what, State state, int least, int most, ActWith act) {
    for (int v : new int[] {least - 1, most + 1, Integer.MIN_VALUE, Integer.MAX_VALUE}) {
      refused(what + " " + v, state, Due.BEYOND, x -> act.on(x, v));
    }
  }

  /** It is no finding, and told(2) counts nothing. */
  void allowed(String what, State state, int v, ActWith act) {
    GraveRows x = state.make();
    int before = x.told(2);
    due.isTrue(what + " " + v + " is allowed", act.on(x, v) > -99999);
    due.is(what + " " + v + " counts no finding", x.told(2), before);
  }

  /** A number of a grave, where there are none, one, and ten, and one state where all else is at hand. */
  void graves(String what, ActWith act) {
    outsideGraves(what, act);
    allowed(what + ", one grave,", () -> States.busy(1), 0, act);
    allowed(what + ", ten graves,", () -> States.busy(10), 0, act);
    allowed(what + ", ten graves,", () -> States.busy(10), 9, act);
    allowed(what + ", five graves,", States::rich, States.RICH_GRAVES - 1, act);
  }

  void outsideGraves(String what, ActWith act) {
    outside(what + ", no graves,", States::empty, 0, -1, act);
    outside(what + ", one grave,", () -> States.busy(1), 0, 0, act);
    outside(what + ", ten graves,", () -> States.busy(10), 0, 9, act);
    outside(what + ", five graves,", States::rich, 0, States.RICH_GRAVES - 1, act);
  }

  private static int firstOther(List<Long> one, List<Long> other) {
    for (int i = 0; i < Math.min(one.size(), other.size()); i++) {
      if (!one.get(i).equals(other.get(i))) {
        return i;
      }
    }
    return one.size() == other.size() ? -1 : Math.min(one.size(), other.size());
  }

  private static List<Long> seen(GraveRows x, int view) {
    List<Long> all = new ArrayList<>();
    if (view >= VIEWS / 2) {
      all.add((long) x.back());
    }
    for (int what : new int[] {0, 1, 3}) {
      all.add((long) x.told(what));
    }
    switch (view % (VIEWS / 2)) {
      case 0: seeGraves(x, all); break;
      case 1: seeBones(x, all); break;
      case 2: seeSheets(x, all); break;
      default: seeOrders(x, all);
    }
    return all;
  }

  private static void seeGraves(GraveRows x, List<Long> all) {
    int size = x.told(0);
    for (int g = 0; g < size; g++) {
      for (int what = 0; what < 8; what++) {
        all.add((long) x.of(g, what));
      }
      all.add((long) x.year(g, false));
      all.add((long) x.year(g, true));
    }
    all.add((long) x.wrong());
    for (int g = 0; g < size; g++) {
      for (int other = 0; other < size; other++) {
        if (other != g) {
          all.add((long) x.cut(g, other, false));
        }
      }
    }
  }

  private static void seeBones(GraveRows x, List<Long> all) {
    int size = x.told(0);
    for (int g = 0; g < size; g++) {
      all.add(x.share(g, true));
      all.add(x.share(g, false));
    }
    int[] telling = {2, 3, 5, 7, 11, 13};
    for (int m = 0; m < 6; m++) {
      all.add((long) x.weigh(m, true, telling[m]));
      all.add((long) x.weigh(m, false, telling[m]));
    }
    for (int g = 0; g < size; g++) {
      all.add(x.share(g, true));
      for (int m = 0; m < 6; m++) {
        all.add((long) x.mark(g, m, true));
      }
    }
  }

  private static void seeSheets(GraveRows x, List<Long> all) {
    if (x.told(0) == 0) {
      x.grave(0, 0, 0);
    }
    for (int s = 0; s < 4; s++) {
      for (int n = 0; n <= 12; n++) {
        all.add((long) x.copy(s, 0, s, 0, n));
      }
      x.goods(0, 0);
      all.add((long) x.read(0, s));
      all.add((long) x.of(0, 3));
      for (int bit = 0; bit <= 24; bit += 8) {
        all.add((long) x.put(s, 0, 1 << bit));
        x.read(0, s);
        all.add((long) x.of(0, 3));
      }
    }
  }

  private static void seeOrders(GraveRows x, List<Long> all) {
    int size = x.told(0);
    all.add((long) x.order());
    all.add((long) x.ways());
    for (int place = 0; place < size; place++) {
      all.add((long) x.at(place));
      all.add((long) x.border(size, place));
      all.add((long) x.stretches(place + 1));
    }
    for (int good = 0; good < 12; good++) {
      all.add((long) x.holes(good));
      all.add((long) x.good(good, false));
      all.add((long) x.good(good, true));
      all.add((long) x.without(good));
    }
    all.add((long) x.check());
  }
}
