import java.lang.reflect.Method;
import java.lang.reflect.Modifier;
import java.util.ArrayList;
import java.util.Arrays;
import java.util.Comparator;
import java.util.List;
import java.util.Random;

/** All promises: long runs of calls, drawn from given seeds, on GraveRows and on the plain model. */
public final class PlainTest {
  private static final int RUNS = 240;
  private static final int CALLS = 512;
  private static final int[] WILD = {
    Integer.MIN_VALUE, -100001, -5001, -5000, -13, -2, -1, 0, 1, 2, 3, 4, 5, 6, 7, 8, 9, 10, 11, 12, 13, 20, 21, 32, 33,
    99, 100, 255, 4095, 4096, 5000, 5001, 65536, Integer.MAX_VALUE - 1, Integer.MAX_VALUE,
  };

  private static int wrong;
  private static int asked;

  public static void main(String[] args) throws ReflectiveOperationException {
    List<Method> face = new ArrayList<>();
    for (Method m : GraveRows.class.getDeclaredMethods()) {
      if (Modifier.isPublic(m.getModifiers())) {
        face.add(m);
      }
    }
    // the machine gives them in no order that is promised, and the runs must be the same each time
    face.sort(Comparator.comparing(Method::getName));
    for (int run = 0; run < RUNS && wrong == 0; run++) {
      run(run, face);
    }
    System.out.println(wrong + " of " + asked + " answers are not as the plain model's");
    if (wrong != 0 || asked < RUNS * CALLS) {
      System.exit(1);
    }
  }

  private static void run(int seed, List<Method> face) throws ReflectiveOperationException {
    Random random = new Random(seed);
    // most runs stay small: the plain model tries all orders
    int mostGraves = seed % 12 == 0 ? 8 : seed % 5 == 1 ? 10 : 2 + random.nextInt(5);
    int wildness = seed % 3 == 0 ? 4 : 40;
    GraveRows rows = new GraveRows();
    PlainRows plain = new PlainRows();
    List<String> story = new ArrayList<>();
    while (story.size() < CALLS && wrong == 0) {
      int size = plain.told(0);
      Method m = face.get(random.nextInt(face.size()));
      if (size < Math.min(3, mostGraves) && random.nextBoolean()) {
        m = named(face, "grave");
      }
      if (m.getName().equals("grave") && size >= mostGraves) {
        m = named(face, random.nextBoolean() ? "goods" : "cut");
      }
      if (m.getName().equals("fill") && random.nextInt(4) != 0 || m.getName().equals("back") && random.nextInt(3) != 0) {
        m = named(face, random.nextBoolean() ? "goods" : "cut");
      }
      if (m.getName().equals("check") && random.nextInt(3) != 0) {
        tellRow(seed, rows, plain, random, story);
        continue;
      }
      Object[] values = new Object[m.getParameterCount()];
      for (int i = 0; i < values.length; i++) {
        values[i] = m.getParameterTypes()[i] == boolean.class
            ? (Object) (random.nextInt(3) != 0)
            : (Object) (random.nextInt(wildness) == 0 ? WILD[random.nextInt(WILD.length)] : tame(m.getName(), i, size, random));
      }
      Method other = PlainRows.class.getDeclaredMethod(m.getName(), m.getParameterTypes());
      long got = ((Number) m.invoke(rows, values)).longValue();
      long want = ((Number) other.invoke(plain, values)).longValue();
      story.add(m.getName() + Arrays.toString(values) + " = " + got);
      same(seed, story, got, want);
    }
  }

  private static void same(int seed, List<String> story, long got, long want) {
    asked++;
    if (got != want) {
      wrong++;
      System.out.println("run " + seed + ": the last answer is not " + want + ":\n" + String.join("\n", story));
    }
  }

  private static Method named(List<Method> face, String name) {
    return face.stream().filter(m -> m.getName().equals(name)).findFirst().orElseThrow();
  }

  /** Rows that are orders or nearly so, told and checked. */
  private static void tellRow(int seed, GraveRows rows, PlainRows plain, Random random, List<String> story) {
    List<Integer> row = someOrder(plain, random);
    for (int fault = random.nextInt(3); fault > 0 && !row.isEmpty(); fault--) {
      spoil(row, plain.told(0), random);
    }
    for (int v : row) {
      if (story.size() < CALLS - 1) {
        int got = rows.tell(v);
        story.add("tell " + v + " = " + got);
        same(seed, story, got, plain.tell(v));
      }
    }
    int got = rows.check();
    story.add("check = " + got);
    same(seed, story, got, plain.check());
  }

  private static void spoil(List<Integer> row, int size, Random random) {
    int i = random.nextInt(row.size());
    switch (random.nextInt(4)) {
      case 0: row.remove(i); break;
      case 1: row.add(i, random.nextInt(size + 1)); break;
      case 2: row.set(i, random.nextInt(size + 1)); break;
      default: row.add(random.nextInt(size));
    }
  }

  private static List<Integer> someOrder(PlainRows plain, Random random) {
    List<Integer> row = new ArrayList<>();
    int size = plain.told(0);
    for (int g = 0; g < size; g++) {
      int place = 0;
      for (int i = 0; i < row.size(); i++) {
        if (plain.later(g, row.get(i)) == 1) {
          place = i + 1;
        }
      }
      int end = row.size();
      for (int i = row.size() - 1; i >= 0; i--) {
        if (plain.later(row.get(i), g) == 1) {
          end = i;
        }
      }
      row.add(end < place ? random.nextInt(row.size() + 1) : place + random.nextInt(end - place + 1), g);
    }
    return row;
  }

  private static int tame(String name, int i, int size, Random random) {
    int grave = random.nextInt(size + 1) % Math.max(1, size);
    switch (name) {
      case "grave": return i == 0 ? random.nextInt(4) : random.nextInt(30);
      case "as": return i == 0 ? grave : random.nextInt(4);
      case "goods": return i == 0 ? grave : random.nextInt(4096) & random.nextInt(4096);
      case "of": return i == 0 ? grave : random.nextInt(8);
      case "span": return i == 0 ? grave : i == 1 ? random.nextInt(100) - 60 : random.nextInt(100) - 40;
      case "coin": return i == 0 ? grave : random.nextInt(80) - 40;
      case "sheet": return i == 0 ? random.nextInt(4) : i == 1 ? new int[] {8, 8, 8, 16, 32, 0}[random.nextInt(6)] : random.nextInt(13);
      case "put": return i == 0 ? random.nextInt(4) : i == 1 ? random.nextInt(8) : random.nextInt(3) << random.nextInt(32);
      case "copy": return i == 0 || i == 2 ? random.nextInt(4) : random.nextInt(6);
      case "read": return i == 0 ? grave : random.nextInt(4);
      case "holes":
      case "good":
      case "without":
      case "used": return random.nextInt(12);
      case "tell": return grave;
      case "stretches":
      case "border": return random.nextInt(size + 1);
      case "in": return random.nextInt(120) - 60;
      case "family": return i == 0 ? grave : random.nextInt(20);
      case "families": return random.nextInt(20);
      case "mark": return i == 0 ? grave : random.nextInt(6);
      case "weigh": return i == 0 ? random.nextInt(6) : 1 + random.nextInt(20);
      case "people": return random.nextInt(3);
      case "told": return random.nextInt(4);
      default: return grave;
    }
  }
}
