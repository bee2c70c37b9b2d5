/** The boundary cases of promises 11 to 14, each by itself. */
public final class SheetsEdgeTest {
  private static final Due due = new Due();
  private static final Twins twins = new Twins(due);
  private static final int[] WIDTHS = {8, 16, 32};

  public static void main(String[] args) {
    sheetBeyond();
    sheetBits();
    sheetSize();
    sheetTooLong();
    sheetMissing();
    sheetAllZero();
    putBeyondSheet();
    putMissing();
    putBeyondNumber();
    putLowestBits();
    copyBeyondSheet();
    copyMissing();
    copyKind();
    copyBeyondNumbers();
    copyOfNone();
    copyOverItself();
    readBeyond();
    readMissing();
    readEdges();
    due.end();
  }

  private static GraveRows withSheet(int bits, int n) {
    GraveRows x = States.busy(1);
    x.sheet(0, bits, n);
    return x;
  }

  /** Which numbers of a sheet are not 0. */
  private static int shown(GraveRows x, int s) {
    x.goods(0, 0);
    x.read(0, s);
    return x.of(0, 3);
  }

  private static void sheetBeyond() {
    for (int bits : new int[] {0, 8, 16, 32}) {
      twins.range("11 sheet, bits " + bits, States::rich, 0, 3, (x, v) -> x.sheet(v, bits, 2));
      twins.outside("11 no sheet, ahead of size", States::rich, 0, 3, (x, v) -> x.sheet(v, bits, -1));
    }
  }

  private static void sheetBits() {
    int[] none = {-32, -16, -8, -1, 1, 7, 9, 12, 15, 17, 24, 31, 33, 64, 256, Integer.MIN_VALUE, Integer.MAX_VALUE};
    for (int bits : none) {
      for (int s = 0; s < 4; s++) {
        int sheet = s;
        twins.refused("11 bits " + bits, States::rich, Due.BEYOND, x -> x.sheet(sheet, bits, 2));
      }
      twins.refused("11 bits " + bits + ", ahead of size", States::rich, Due.BEYOND, x -> x.sheet(0, bits, -1));
    }
  }

  private static void sheetSize() {
    for (int bits : new int[] {0, 8, 16, 32}) {
      twins.refused("11 n -1, bits " + bits, States::rich, Due.SIZE, x -> x.sheet(0, bits, -1));
      twins.refused("11 n least, bits " + bits, States::rich, Due.SIZE, x -> x.sheet(0, bits, Integer.MIN_VALUE));
    }
    for (int bits : WIDTHS) {
      due.is("11 n 0, bits " + bits, States.rich().sheet(0, bits, 0), 0);
      due.is("11 none is not MISSING", withSheet(bits, 0).read(0, 0), 0);
    }
  }

  private static void sheetTooLong() {
    for (int bits : new int[] {0, 8, 16, 32}) {
      twins.refused("11 n 13, bits " + bits, States::rich, Due.BEYOND, x -> x.sheet(0, bits, 13));
      twins.refused("11 n most, bits " + bits, States::rich, Due.BEYOND, x -> x.sheet(0, bits, Integer.MAX_VALUE));
    }
    for (int bits : WIDTHS) {
      for (int n = 0; n <= 12; n++) {
        due.is("11 n " + n + ", bits " + bits, States.rich().sheet(3, bits, n), n);
      }
    }
  }

  private static void sheetMissing() {
    for (int n = 0; n <= 12; n++) {
      GraveRows x = States.rich();
      due.is("11 missing, n " + n, x.sheet(1, 0, n), 0);
      due.is("11 it is missing", x.put(1, 0, 1), Due.MISSING);
      due.is("11 the others are not", x.copy(0, 0, 0, 0, 3) + x.copy(2, 0, 2, 0, 5), 8);
      due.is("11 missing again", x.sheet(1, 0, n), 0);
      due.is("11 there again", x.sheet(1, 16, 12), 12);
      due.is("11 without its numbers", shown(x, 1), 0);
    }
  }

  private static void sheetAllZero() {
    for (int bits : WIDTHS) {
      GraveRows x = withSheet(bits, 12);
      for (int i = 0; i < 12; i++) {
        due.is("11 put " + i, x.put(0, i, 1), 0);
      }
      due.is("11 none is 0", shown(x, 0), 4095);
      x.sheet(0, bits, 12);
      due.is("11 all are 0", shown(x, 0), 0);
      x.put(0, 11, 1);
      x.sheet(0, bits, 3);
      x.sheet(0, bits, 12);
      due.is("11 all are 0 where it grows again", shown(x, 0), 0);
    }
  }

  private static void putBeyondSheet() {
    twins.outside("12 sheet", States::rich, 0, 3, (x, v) -> x.put(v, 0, 1));
    due.is("12 the first sheet", States.rich().put(0, 0, 1), 0);
    GraveRows x = States.graves(1);
    x.sheet(3, 8, 1);
    due.is("12 the last sheet", x.put(3, 0, 1), 0);
  }

  private static void putMissing() {
    twins.refused("12 missing", States::rich, Due.MISSING, x -> x.put(3, 0, 1));
    twins.refused("12 missing, ahead of a number below", States::rich, Due.MISSING, x -> x.put(3, -1, 1));
    twins.refused("12 missing, ahead of a number above", States::rich, Due.MISSING, x -> x.put(3, 12, 1));
  }

  private static void putBeyondNumber() {
    for (int bits : WIDTHS) {
      twins.outside("12 no numbers at all", () -> withSheet(bits, 0), 0, -1, (x, v) -> x.put(0, v, 1));
      for (int n = 1; n <= 12; n++) {
        int numbers = n;
        twins.range("12 number of " + n, () -> withSheet(bits, numbers), 0, n - 1, (x, v) -> x.put(0, v, 1));
      }
    }
    for (int i = 0; i < 12; i++) {
      GraveRows x = withSheet(8, 12);
      x.put(0, i, 1);
      due.is("12 only number " + i, shown(x, 0), 1 << i);
      x.put(0, i, 0);
      due.is("12 it is 0 again", shown(x, 0), 0);
    }
  }

  private static void putLowestBits() {
    int[] zeroOf8 = {0, 256, -256, 512, 65536, 1 << 30, Integer.MIN_VALUE};
    int[] someOf8 = {1, 127, 128, 255, 257, -1, -128, -129, -255, 0x7fffff80, Integer.MAX_VALUE};
    int[] zeroOf16 = {0, 65536, -65536, 131072, 1 << 30, Integer.MIN_VALUE};
    int[] someOf16 = {1, 255, 256, -256, 32767, 32768, 65535, 65537, -1, -32768, Integer.MAX_VALUE};
    int[] zeroOf32 = {0};
    int[] someOf32 = {1, 256, 65536, -65536, 1 << 30, -1, Integer.MIN_VALUE, Integer.MAX_VALUE};
    lowestBits(8, zeroOf8, 0);
    lowestBits(8, someOf8, 1);
    lowestBits(16, zeroOf16, 0);
    lowestBits(16, someOf16, 1);
    lowestBits(32, zeroOf32, 0);
    lowestBits(32, someOf32, 1);
  }

  private static void lowestBits(int bits, int[] values, int wanted) {
    for (int v : values) {
      GraveRows x = withSheet(bits, 1);
      x.put(0, 0, 1 - wanted);
      due.is("12 put " + v, x.put(0, 0, v), 0);
      due.is("12 the lowest " + bits + " bits of " + v, shown(x, 0), wanted);
    }
  }

  private static void copyBeyondSheet() {
    twins.outside("13 sheet", States::rich, 0, 3, (x, v) -> x.copy(v, 0, 0, 0, 1));
    twins.outside("13 other sheet", States::rich, 0, 3, (x, v) -> x.copy(0, 0, v, 0, 1));
    twins.outside("13 sheet, ahead of missing", States::rich, 0, 3, (x, v) -> x.copy(v, 0, 3, 0, 1));
    twins.outside("13 other sheet, ahead of missing", States::rich, 0, 3, (x, v) -> x.copy(3, 0, v, 0, 1));
    for (int s = 0; s < 4; s++) {
      GraveRows x = States.graves(1);
      x.sheet(s, 8, 1);
      due.is("13 sheet " + s, x.copy(s, 0, s, 0, 1), 1);
    }
  }

  private static void copyMissing() {
    for (int s = 0; s < 3; s++) {
      int sheet = s;
      twins.refused("13 the other one is missing, ahead of kind", States::rich, Due.MISSING, x -> x.copy(sheet, 0, 3, 0, 1));
      twins.refused("13 the first is missing, ahead of kind", States::rich, Due.MISSING, x -> x.copy(3, 0, sheet, 0, 1));
    }
    twins.refused("13 both are missing", States::rich, Due.MISSING, x -> x.copy(3, 0, 3, 0, 1));
    twins.refused("13 missing, though none is copied", States::rich, Due.MISSING, x -> x.copy(3, 0, 3, 0, 0));
    twins.refused("13 missing, ahead of n", States::rich, Due.MISSING, x -> x.copy(0, 0, 3, 0, -1));
    twins.refused("13 missing, ahead of from", States::rich, Due.MISSING, x -> x.copy(3, -1, 0, 0, 1));
    twins.refused("13 missing, ahead of to", States::rich, Due.MISSING, x -> x.copy(0, 0, 3, 13, 1));
  }

  private static void copyKind() {
    for (int s = 0; s < 3; s++) {
      for (int t = 0; t < 3; t++) {
        if (s != t) {
          int source = s;
          int target = t;
          twins.refused("13 kind", States::rich, Due.KIND, x -> x.copy(source, 0, target, 0, 1));
          twins.refused("13 kind, though none is copied", States::rich, Due.KIND, x -> x.copy(source, 0, target, 0, 0));
          twins.refused("13 kind, ahead of from", States::rich, Due.KIND, x -> x.copy(source, -1, target, 0, 1));
          twins.refused("13 kind, ahead of to", States::rich, Due.KIND, x -> x.copy(source, 0, target, 13, 1));
          twins.refused("13 kind, ahead of n", States::rich, Due.KIND, x -> x.copy(source, 0, target, 0, 13));
        }
      }
    }
    for (int bits : WIDTHS) {
      GraveRows x = withSheet(bits, 1);
      x.sheet(1, bits, 1);
      due.is("13 as many bits, " + bits, x.copy(0, 0, 1, 0, 1), 1);
    }
  }

  /** Sheet 0 has five numbers, of which 1 to 4 are not 0, sheet 1 three, all 0. */
  private static GraveRows fiveAndThree() {
    GraveRows x = withSheet(8, 5);
    for (int i = 1; i < 5; i++) {
      x.put(0, i, i);
    }
    x.sheet(1, 8, 3);
    return x;
  }

  private static void copyBeyondNumbers() {
    Twins.State state = SheetsEdgeTest::fiveAndThree;
    twins.range("13 from", state, 0, 4, (x, v) -> x.copy(0, v, 1, 0, 1));
    twins.range("13 to", state, 0, 2, (x, v) -> x.copy(0, 0, 1, v, 1));
    twins.range("13 n, as many as there is room for", state, 0, 3, (x, v) -> x.copy(0, 0, 1, 0, v));
    twins.range("13 n, as many as there are", state, 0, 3, (x, v) -> x.copy(1, 0, 0, 0, v));
    twins.range("13 n, from one on", state, 0, 2, (x, v) -> x.copy(0, 3, 1, 0, v));
    twins.range("13 n, to one on", state, 0, 1, (x, v) -> x.copy(0, 0, 1, 2, v));
    int most = Integer.MAX_VALUE;
    twins.refused("13 from and n go over the end of int", state, Due.BEYOND, x -> x.copy(0, most, 1, 0, most));
    twins.refused("13 to and n go over the end of int", state, Due.BEYOND, x -> x.copy(0, 0, 1, most, most));
    twins.refused("13 from -1 and one more", state, Due.BEYOND, x -> x.copy(0, -1, 1, 0, 2));
    twins.refused("13 to -1 and one more", state, Due.BEYOND, x -> x.copy(0, 0, 1, -1, 2));
    twins.refused("13 n -1 from the end", state, Due.BEYOND, x -> x.copy(0, 5, 1, 3, -1));
    GraveRows x = withSheet(16, 12);
    x.sheet(1, 16, 12);
    x.put(0, 0, 1);
    x.put(0, 11, 1);
    due.is("13 all twelve", x.copy(0, 0, 1, 0, 12), 12);
    due.is("13 the first and the last", shown(x, 1), 0b100000000001);
    due.is("13 thirteen", x.copy(0, 0, 1, 0, 13), Due.BEYOND);
  }

  private static void copyOfNone() {
    GraveRows x = fiveAndThree();
    due.is("13 none", x.copy(0, 0, 1, 0, 0), 0);
    due.is("13 none from the end", x.copy(0, 5, 1, 0, 0), 0);
    due.is("13 none to the end", x.copy(0, 0, 1, 3, 0), 0);
    due.is("13 nothing is changed", shown(x, 1), 0);
    twins.refused("13 none from behind the end", SheetsEdgeTest::fiveAndThree, Due.BEYOND, y -> y.copy(0, 6, 1, 0, 0));
    twins.refused("13 none to behind the end", SheetsEdgeTest::fiveAndThree, Due.BEYOND, y -> y.copy(0, 0, 1, 4, 0));
    GraveRows empty = withSheet(8, 0);
    due.is("13 none of none", empty.copy(0, 0, 0, 0, 0), 0);
    due.is("13 one of none", empty.copy(0, 0, 0, 0, 1), Due.BEYOND);
  }

  private static void copyOverItself() {
    GraveRows forward = fiveAndThree();
    due.is("13 forward", forward.copy(0, 0, 0, 1, 4), 4);
    due.is("13 each as it was, forward", shown(forward, 0), 0b11100);
    GraveRows back = fiveAndThree();
    back.put(0, 4, 0);
    due.is("13 back", back.copy(0, 1, 0, 0, 4), 4);
    due.is("13 each as it was, back", shown(back, 0), 0b00111);
    GraveRows same = fiveAndThree();
    due.is("13 to where it is", same.copy(0, 0, 0, 0, 5), 5);
    due.is("13 all stay", shown(same, 0), 0b11110);
    GraveRows other = fiveAndThree();
    due.is("13 to another one", other.copy(0, 0, 1, 1, 2), 2);
    due.is("13 only where it comes to", shown(other, 1), 0b100);
    due.is("13 where it comes from, all stay", shown(other, 0), 0b11110);
  }

  private static void readBeyond() {
    twins.outsideGraves("14 grave", (x, v) -> x.read(v, 0));
    twins.allowed("14 the last grave", States::rich, 4, (x, v) -> x.read(v, 1));
    twins.outside("14 sheet", States::rich, 0, 3, (x, v) -> x.read(0, v));
    for (int s = 0; s < 4; s++) {
      GraveRows x = States.graves(1);
      x.sheet(s, 8, 1);
      due.is("14 sheet " + s, x.read(0, s), 0);
    }
    twins.refused("14 no grave, ahead of missing", States::rich, Due.BEYOND, x -> x.read(5, 3));
    twins.refused("14 no grave below, ahead of missing", States::rich, Due.BEYOND, x -> x.read(-1, 3));
  }

  private static void readMissing() {
    twins.refused("14 missing", States::rich, Due.MISSING, x -> x.read(0, 3));
    twins.refused("14 missing for the last grave", States::rich, Due.MISSING, x -> x.read(4, 3));
  }

  private static void readEdges() {
    for (int n = 0; n <= 12; n++) {
      GraveRows x = withSheet(8, n);
      x.goods(0, 4095);
      due.is("14 all numbers are 0, n " + n, x.read(0, 0), 12 - n);
      due.is("14 the goods above stay, n " + n, x.of(0, 3), 4095 & -1 << n);
      for (int i = 0; i < n; i++) {
        x.put(0, i, 1);
      }
      x.goods(0, 0);
      due.is("14 no number is 0, n " + n, x.read(0, 0), n);
      due.is("14 the goods above stay away, n " + n, x.of(0, 3), (1 << n) - 1);
    }
  }
}
