/** Promises 32 to 37. */
final class SheetsTest {
  private static final Due due = new Due("SheetsTest");

  public static void main(String[] args) {
    sheet();
    write();
    copy();
    copyFindings();
    lays();
    book();
    read();
    due.end();
  }

  private static void sheet() {
    SeatStraps x = new SeatStraps();
    int[] bits = {8, 16, 64};
    for (int b : bits) {
      for (int s = 0; s < 4; s++) {
        due.is("32: 40 numbers", x.sheet(s, b, 40), 40);
        due.is("32: the last one", x.write(s, 39, 3), 0);
        due.is("32: the first one", x.write(s, 0, 3), 0);
        due.is("32: none behind it", x.write(s, 40, 3), Due.BEYOND);
        due.is("32: made anew", x.sheet(s, b, 40), 40);
        due.is("32: all 0", x.write(s, 39, 4), 0);
        due.is("32: all 0", x.write(s, 0, 4), 0);
        due.is("32: smaller", x.sheet(s, b, 1), 1);
        due.is("32: smaller", x.write(s, 1, 0), Due.BEYOND);
        due.is("32: none", x.sheet(s, b, 0), 0);
        due.is("32: none, but not missing", x.write(s, 0, 0), Due.BEYOND);
        due.is("32: missing", x.sheet(s, 0, 7), 0);
        due.is("32: missing", x.write(s, 0, 0), Due.MISSING);
      }
    }
    due.is("32: sheet 4", x.sheet(4, 8, 1), Due.BEYOND);
    due.is("32: sheet -1", x.sheet(-1, 8, 1), Due.BEYOND);
    due.is("32: bits 32", x.sheet(0, 32, 1), Due.BEYOND);
    due.is("32: bits -8", x.sheet(0, -8, 1), Due.BEYOND);
    due.is("32: bits 1", x.sheet(0, 1, -1), Due.BEYOND);
    due.is("32: n -1", x.sheet(0, 8, -1), Due.SIZE);
    due.is("32: n -1 with bits 0", x.sheet(0, 0, -1), Due.SIZE);
    due.is("32: n MIN", x.sheet(0, 64, Due.MIN), Due.SIZE);
    due.is("32: n 41", x.sheet(0, 16, 41), Due.BEYOND);
    due.is("32: n 41 with bits 0", x.sheet(0, 0, 41), Due.BEYOND);
    due.is("32: n MAX", x.sheet(0, 64, Due.MAX), Due.BEYOND);
    due.is("32: still missing", x.lays(0), Due.MISSING);
    x.sheet(0, 8, 2);
    x.write(0, 1, 5);
    due.is("32: a finding", x.sheet(0, 8, 41), Due.BEYOND);
    due.is("32: changes nothing", x.write(0, 1, 0), 5);
  }

  private static void write() {
    SeatStraps x = new SeatStraps();
    due.is("33: missing", x.write(0, 0, 1), Due.MISSING);
    due.is("33: MISSING is asked first", x.write(0, -1, 1), Due.MISSING);
    due.is("33: no sheet 4", x.write(4, 0, 1), Due.BEYOND);
    due.is("33: no sheet -1", x.write(-1, 0, 1), Due.BEYOND);
    x.sheet(1, 8, 3);
    x.sheet(2, 16, 3);
    x.sheet(3, 64, 3);
    long[] v = {127, 128, 255, 256, -1, -129, 32767, 32768, 65536 + 7, Long.MAX_VALUE, Long.MIN_VALUE, 1L << 40};
    long was8 = 0;
    long was16 = 0;
    long was64 = 0;
    for (long each : v) {
      due.is("33: 8 bits", x.write(1, 1, each), was8);
      due.is("33: 16 bits", x.write(2, 1, each), was16);
      due.is("33: 64 bits", x.write(3, 1, each), was64);
      was8 = each << 56 >> 56;
      was16 = each << 48 >> 48;
      was64 = each;
    }
    due.is("33: the others stay", x.write(3, 0, 0) + x.write(3, 2, 0), 0);
    due.is("33: number 3", x.write(3, 3, 0), Due.BEYOND);
    due.is("33: number -1", x.write(3, -1, 0), Due.BEYOND);
    due.is("33: number MAX", x.write(3, Due.MAX, 0), Due.BEYOND);
    due.is("33: number MIN", x.write(3, Due.MIN, 0), Due.BEYOND);
    due.is("33: sheet MIN", x.write(Due.MIN, 0, 0), Due.BEYOND);
    x.write(3, 0, Due.NONE);
    int before = x.status(-1);
    due.is("33: a number below -1000000000", x.write(3, 0, 0), Due.NONE);
    due.is("33: is no finding", x.status(-1), before);
  }

  private static SeatStraps twoRows() {
    SeatStraps x = new SeatStraps();
    x.sheet(0, 16, 6);
    x.sheet(1, 16, 4);
    for (int i = 0; i < 6; i++) {
      x.write(0, i, i + 1);
    }
    return x;
  }

  private static void row(SeatStraps x, int s, long... want) {
    for (int i = 0; i < want.length; i++) {
      long got = x.write(s, i, 0);
      due.is("34: number " + i + " of sheet " + s, got, want[i]);
    }
  }

  private static void copy() {
    SeatStraps x = twoRows();
    due.is("34: to another one", x.copy(0, 1, 1, 0, 3), 3);
    row(x, 1, 2, 3, 4, 0);
    row(x, 0, 1, 2, 3, 4, 5, 6);
    x = twoRows();
    due.is("34: behind itself", x.copy(0, 0, 0, 2, 4), 4);
    row(x, 0, 1, 2, 1, 2, 3, 4);
    x = twoRows();
    due.is("34: ahead of itself", x.copy(0, 2, 0, 0, 4), 4);
    row(x, 0, 3, 4, 5, 6, 5, 6);
    x = twoRows();
    due.is("34: onto itself", x.copy(0, 0, 0, 0, 6), 6);
    due.is("34: none at the end", x.copy(0, 6, 1, 4, 0), 0);
    due.is("34: none", x.copy(0, 0, 1, 0, 0), 0);
    due.is("34: to the end", x.copy(0, 5, 1, 3, 1), 1);
    row(x, 1, 0, 0, 0, 6);
  }

  private static void copyFindings() {
    SeatStraps x = twoRows();
    x.sheet(2, 8, 6);
    due.is("34: no sheet 4", x.copy(4, 0, 0, 0, 0), Due.BEYOND);
    due.is("34: no sheet 4", x.copy(0, 0, 4, 0, 0), Due.BEYOND);
    due.is("34: no sheet -1", x.copy(-1, 0, 3, 0, 0), Due.BEYOND);
    due.is("34: no sheet -1", x.copy(3, 0, -1, 0, 0), Due.BEYOND);
    due.is("34: the other one is missing", x.copy(0, -1, 3, 0, 0), Due.MISSING);
    due.is("34: the one is missing", x.copy(3, 0, 0, 0, -1), Due.MISSING);
    due.is("34: both are missing", x.copy(3, 0, 3, 0, 0), Due.MISSING);
    due.is("34: other bits", x.copy(0, 0, 2, 0, 1), Due.KIND);
    due.is("34: KIND is asked first", x.copy(2, -1, 0, -1, -1), Due.KIND);
    due.is("34: from -1", x.copy(0, -1, 1, 0, 1), Due.BEYOND);
    due.is("34: to -1", x.copy(0, 0, 1, -1, 1), Due.BEYOND);
    due.is("34: n -1", x.copy(0, 1, 1, 1, -1), Due.BEYOND);
    due.is("34: the one has not so many", x.copy(0, 4, 1, 0, 3), Due.BEYOND);
    due.is("34: the other one has not so many", x.copy(0, 0, 1, 2, 3), Due.BEYOND);
    due.is("34: n 7", x.copy(0, 0, 0, 0, 7), Due.BEYOND);
    due.is("34: none from behind the end", x.copy(0, 7, 1, 0, 0), Due.BEYOND);
    due.is("34: none to behind the end", x.copy(0, 0, 1, 5, 0), Due.BEYOND);
    due.is("34: n MAX", x.copy(0, 1, 1, 1, Due.MAX), Due.BEYOND);
    due.is("34: from MAX", x.copy(0, Due.MAX, 1, 0, 1), Due.BEYOND);
    due.is("34: to MAX", x.copy(0, 0, 1, Due.MAX, Due.MAX), Due.BEYOND);
    due.is("34: all MIN", x.copy(0, Due.MIN, 1, Due.MIN, Due.MIN), Due.BEYOND);
    row(x, 1, 0, 0, 0, 0);
  }

  private static void lays() {
    SeatStraps x = Due.carOf(0, 1, 2, 3);
    x.sheet(0, 64, 6);
    long[] v = {9, -1, 10, 0, 3, 4};
    for (int i = 0; i < 6; i++) {
      x.write(0, i, v[i]);
    }
    due.is("35: how many came", x.lays(0), 2);
    int[] want = {9, 5, 5, 0};
    for (int c = 0; c < 4; c++) {
      due.is("35: mood of " + c, x.of(c, 2), want[c]);
    }
    x.write(0, 1, 1L << 32);
    due.is("35: a long one", x.lays(0), 2);
    x.write(0, 1, Long.MIN_VALUE);
    due.is("35: a long one", x.lays(0), 2);
    due.is("35: it is left out", x.of(1, 2), 5);
    x.sheet(1, 8, 2);
    due.is("35: fewer than children", x.lays(1), 2);
    due.is("35: the others stay", x.of(0, 2) * 100 + x.of(1, 2) * 10 + x.of(2, 2), 5);
    x.sheet(1, 8, 0);
    due.is("35: none", x.lays(1), 0);
    due.is("35: missing", x.lays(2), Due.MISSING);
    due.is("35: no sheet 4", x.lays(4), Due.BEYOND);
    due.is("35: no sheet -1", x.lays(-1), Due.BEYOND);
  }

  private static void book() {
    SeatStraps x = Due.carOf(0, 4);
    x.click(0, 0);
    x.sheet(0, 8, 8);
    due.is("36: how many", x.book(0, 0), 8);
    due.is("36: nothing changes", x.of(0, 2) * 10 + x.now(0), 50);
    long[] want = {5, 4, 4, 4, 3, 3, 3, 2};
    for (int i = 0; i < 8; i++) {
      due.is("36: on " + i, x.write(0, i, 77), want[i]);
    }
    x.sheet(1, 64, 40);
    due.is("36: who sits nowhere", x.book(1, 1), 40);
    for (int i = 0; i < 40; i++) {
      due.is("36: on " + i, x.write(1, i, 77), 5);
    }
    x.sheet(2, 16, 0);
    due.is("36: none", x.book(2, 0), 0);
    due.is("36: missing", x.book(3, 0), Due.MISSING);
    due.is("36: MISSING is asked first", x.book(3, 2), Due.MISSING);
    due.is("36: no sheet 4", x.book(4, 0), Due.BEYOND);
    due.is("36: no sheet -1", x.book(-1, 0), Due.BEYOND);
    due.is("36: child 2", x.book(0, 2), Due.BEYOND);
    due.is("36: child -1", x.book(0, -1), Due.BEYOND);
    due.is("36: a finding changes nothing", x.write(0, 0, 0), 77);
  }

  private static void read() {
    SeatStraps x = Due.carOf(0, 4);
    x.sheet(0, 16, 0);
    due.is("37: no number, sits nowhere", x.read(0, 0), 6);
    x.click(0, 0);
    due.is("37: no number, sits", x.read(0, 0), 60);
    x.sheet(0, 16, 1);
    due.is("37: another mood", x.read(0, 0), 0);
    x.write(0, 0, 5);
    due.is("37: its mood now", x.read(0, 0), 60);
    x.sheet(0, 16, 2);
    x.book(0, 0);
    // 4 at once: CHILD, BIG, SELF at all; ARCHER not tight by more than 6.
    due.is("37: a minute", x.read(0, 0), 37);
    x.write(0, 1, 3);
    // 3: ARCHER tight, BABY alone, HOWLER not tight.
    due.is("37: a minute", x.read(0, 0), 3 + 10 + 7);
    x.write(0, 1, 1);
    due.is("37: HOWLER tight", x.read(0, 0), 3);
    x.write(0, 1, 2);
    due.is("37: none", x.read(0, 0), 0);
    x.sheet(0, 64, 3);
    x.book(0, 0);
    x.write(0, 2, 4 + (1L << 32));
    due.is("37: all bits are asked", x.read(0, 0), 0);
    due.is("37: nothing changes", x.of(0, 0) * 100 + x.of(0, 5) * 10 + x.of(0, 6), 90);
    due.is("37: missing", x.read(3, 0), Due.MISSING);
    due.is("37: MISSING is asked first", x.read(3, 2), Due.MISSING);
    due.is("37: no sheet 4", x.read(4, 0), Due.BEYOND);
    due.is("37: no sheet -1", x.read(-1, 0), Due.BEYOND);
    due.is("37: child 2", x.read(0, 2), Due.BEYOND);
    due.is("37: child -1", x.read(0, -1), Due.BEYOND);
  }
}
