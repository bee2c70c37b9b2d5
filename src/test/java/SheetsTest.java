/** Promises 11 to 14. */
public final class SheetsTest {
  private static final Due due = new Due();

  public static void main(String[] args) {
    sheet();
    put();
    copy();
    read();
    due.end();
  }

  private static void sheet() {
    GraveRows x = new GraveRows();
    for (int bits : new int[] {8, 16, 32}) {
      due.is("11 n", x.sheet(3, bits, 12), 12);
      due.is("11 none", x.sheet(3, bits, 0), 0);
      due.is("11 too long", x.sheet(3, bits, 13), Due.BEYOND);
      due.is("11 below 0", x.sheet(3, bits, -1), Due.SIZE);
    }
    due.is("11 an empty one is not missing", x.put(3, 0, 1), Due.BEYOND);
    for (int bits : new int[] {-8, 1, 7, 9, 24, 33, 64, Integer.MAX_VALUE}) {
      due.is("11 bits " + bits, x.sheet(0, bits, 1), Due.BEYOND);
      due.is("11 bits ahead of size " + bits, x.sheet(0, bits, -1), Due.BEYOND);
    }
    due.is("11 no sheet", x.sheet(4, 8, -1), Due.BEYOND);
    due.is("11 no sheet", x.sheet(-1, 8, 1), Due.BEYOND);
    due.is("11 gone", x.sheet(3, 0, 5), 0);
    due.is("11 missing", x.put(3, 0, 1), Due.MISSING);
    due.is("11 gone, size", x.sheet(3, 0, -1), Due.SIZE);
    due.is("11 gone, beyond", x.sheet(3, 0, 13), Due.BEYOND);
    x.grave(0, 0, 0);
    x.sheet(0, 8, 2);
    x.put(0, 0, 1);
    x.put(0, 1, 1);
    due.is("11 anew", x.sheet(0, 8, 2), 2);
    due.is("11 all 0", x.read(0, 0), 0);
  }

  private static void put() {
    GraveRows x = Due.withGraves(1);
    int[] widths = {8, 16, 32};
    int[] above = {256, 65536, 0};
    int[] highest = {128, 32768, Integer.MIN_VALUE};
    for (int i = 0; i < 3; i++) {
      x.sheet(i, widths[i], 3);
      due.is("12 above", x.put(i, 0, above[i]), 0);
      due.is("12 highest", x.put(i, 1, highest[i]), 0);
      due.is("12 all", x.put(i, 2, -1), 0);
      due.is("12 read", x.read(0, i), 2);
      due.is("12 which", x.of(0, 3), 6);
      due.is("12 no number", x.put(i, 3, 1), Due.BEYOND);
      due.is("12 no number", x.put(i, -1, 1), Due.BEYOND);
    }
    due.is("12 missing ahead of number", x.put(3, 99, 1), Due.MISSING);
    for (int far : Due.FAR) {
      due.is("12 far sheet", x.put(far, 0, 1), Due.BEYOND);
      due.is("12 far number", x.put(0, far, 1), Due.BEYOND);
    }
    due.is("12 no sheet", x.put(4, 0, 1), Due.BEYOND);
  }

  private static void copy() {
    GraveRows x = Due.withGraves(1);
    x.sheet(0, 8, 5);
    x.put(0, 0, 1);
    x.put(0, 2, 1);
    due.is("13 over itself, on", x.copy(0, 0, 0, 1, 4), 4);
    x.read(0, 0);
    due.is("13 as it was", x.of(0, 3), 0b01011);
    due.is("13 over itself, back", x.copy(0, 1, 0, 0, 4), 4);
    x.read(0, 0);
    due.is("13 back", x.of(0, 3), 0b00101);
    x.sheet(1, 8, 3);
    due.is("13 to another one", x.copy(0, 2, 1, 1, 2), 2);
    x.read(0, 1);
    due.is("13 there", x.of(0, 3), 0b00010);
    due.is("13 none at the end", x.copy(0, 5, 1, 3, 0), 0);
    due.is("13 none behind the end", x.copy(0, 6, 1, 3, 0), Due.BEYOND);
    due.is("13 source short", x.copy(0, 4, 1, 0, 2), Due.BEYOND);
    due.is("13 target short", x.copy(0, 0, 1, 2, 2), Due.BEYOND);
    due.is("13 from", x.copy(0, -1, 1, 0, 1), Due.BEYOND);
    due.is("13 to", x.copy(0, 0, 1, -1, 1), Due.BEYOND);
    due.is("13 n", x.copy(0, 0, 1, 0, -1), Due.BEYOND);
    for (int far : Due.FAR) {
      due.is("13 far from", x.copy(0, far, 1, 0, 1), Due.BEYOND);
      due.is("13 far to", x.copy(0, 0, 1, far, 1), Due.BEYOND);
      due.is("13 far n", x.copy(0, 1, 1, 1, far), Due.BEYOND);
      due.is("13 far sheet", x.copy(far, 0, 1, 0, 1), Due.BEYOND);
      due.is("13 far other sheet", x.copy(0, 0, far, 0, 1), Due.BEYOND);
    }
    x.sheet(2, 16, 5);
    due.is("13 bits ahead of numbers", x.copy(0, -1, 2, 0, 1), Due.KIND);
    due.is("13 missing ahead of bits", x.copy(2, 0, 3, 0, 1), Due.MISSING);
    due.is("13 missing source", x.copy(3, 0, 2, 0, 1), Due.MISSING);
    due.is("13 no sheet ahead of missing", x.copy(3, 0, 4, 0, 1), Due.BEYOND);
    x.read(0, 1);
    due.is("13 findings change nothing", x.of(0, 3), 0b00010);
  }

  private static void read() {
    GraveRows x = Due.withGraves(1);
    x.goods(0, 0b111111111111);
    x.sheet(0, 32, 3);
    x.put(0, 1, -5);
    due.is("14 the others stay", x.read(0, 0), 10);
    due.is("14 which", x.of(0, 3), 0b111111111010);
    x.sheet(0, 8, 0);
    due.is("14 no numbers", x.read(0, 0), 10);
    x.sheet(1, 8, 12);
    x.put(1, 11, 1);
    due.is("14 all numbers", x.read(0, 1), 1);
    due.is("14 the last one", x.of(0, 3), 2048);
    due.is("14 missing", x.read(0, 2), Due.MISSING);
    due.is("14 no grave ahead of missing", x.read(1, 2), Due.BEYOND);
    due.is("14 no sheet", x.read(0, 4), Due.BEYOND);
    for (int far : Due.FAR) {
      due.is("14 far grave", x.read(far, 1), Due.BEYOND);
      due.is("14 far sheet", x.read(0, far), Due.BEYOND);
    }
    due.is("14 findings change nothing", x.of(0, 3), 2048);
  }
}
