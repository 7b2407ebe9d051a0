import java.util.function.Supplier;

/** The sentences of promises 32 to 37. */
final class SheetsEdgesTest {
  private static final Edges edges = new Edges("SheetsEdgesTest", 32, 37);
  private static final int[] BITS = {8, 16, 64};

  public static void main(String[] args) {
    edges.sentence(32, "A sheet has n numbers, all 0, of 8, 16 or 64 bits", SheetsEdgesTest::sheet);
    edges.sentence(32, "BEYOND: no such sheet, other bits.", SheetsEdgesTest::sheetBeyond);
    edges.sentence(32, "SIZE: n is below 0 (also with bits 0).", SheetsEdgesTest::sheetSize);
    edges.sentence(32, "BEYOND: n is above 40 (also with bits 0).", SheetsEdgesTest::sheetAbove);
    edges.sentence(33, "Number i of a sheet becomes v (its lowest bits): what it was.", SheetsEdgesTest::write);
    edges.sentence(33, "BEYOND: no such sheet.", SheetsEdgesTest::writeNoSheet);
    edges.sentence(33, "MISSING.", SheetsEdgesTest::writeMissing);
    edges.sentence(33, "BEYOND: no such number.", SheetsEdgesTest::writeNoNumber);
    edges.sentence(34, "n numbers of a sheet from one on come to another one", SheetsEdgesTest::copy);
    edges.sentence(34, "BEYOND: no such sheet (either).", SheetsEdgesTest::copyNoSheet);
    edges.sentence(34, "MISSING: one is.", SheetsEdgesTest::copyMissing);
    edges.sentence(34, "KIND: they are not of as many bits.", SheetsEdgesTest::copyKind);
    edges.sentence(34, "BEYOND: one has not so many, or from, to or n is below 0.", SheetsEdgesTest::copyBeyond);
    edges.sentence(35, "Numbers of a sheet become MOODS of CHILDREN 0, 1, ..", SheetsEdgesTest::lays);
    edges.sentence(35, "BEYOND: no such sheet.", SheetsEdgesTest::laysNoSheet);
    edges.sentence(35, "MISSING.", SheetsEdgesTest::laysMissing);
    edges.sentence(36, "A book: MOOD of one ON 0, 1, 2, .. MINUTES", SheetsEdgesTest::book);
    edges.sentence(36, "BEYOND: no such sheet.", SheetsEdgesTest::bookNoSheet);
    edges.sentence(36, "MISSING.", SheetsEdgesTest::bookMissing);
    edges.sentence(36, "BEYOND: child.", SheetsEdgesTest::bookNoChild);
    edges.sentence(37, "THE READER: numbers of a sheet are MOODS of one ON", SheetsEdgesTest::read);
    edges.sentence(37, "BEYOND: no such sheet.", SheetsEdgesTest::readNoSheet);
    edges.sentence(37, "MISSING.", SheetsEdgesTest::readMissing);
    edges.sentence(37, "BEYOND: child.", SheetsEdgesTest::readNoChild);
    edges.end();
  }

  private static void sheet() {
    int[] lengths = {0, 1, 39, 40};
    for (int bits : BITS) {
      for (int n : lengths) {
        SeatStraps x = new SeatStraps();
        edges.is("n", x.sheet(3, bits, n), n);
        for (int i = 0; i < n; i++) {
          edges.is("all 0", x.write(3, i, -1), 0);
        }
        edges.is("and no more", x.write(3, n, -1), Due.BEYOND);
        edges.is("made again", x.sheet(3, bits, 40), 40);
        for (int i = 0; i < 40; i++) {
          edges.is("all 0 again", x.write(3, i, 0), 0);
        }
      }
    }
    SeatStraps y = Cars.busy();
    edges.is("missing, of 40", y.sheet(0, 0, 40), 0);
    edges.is("it is", y.write(0, 0, 0), Due.MISSING);
    edges.is("missing again, of none", y.sheet(0, 0, 0), 0);
    edges.is("there again", y.sheet(0, 8, 5), 5);
    edges.is("all 0, whatever was", y.write(0, 1, 0), 0);
    edges.is("the others are left", y.write(1, 0, 0), 4);
  }

  private static void sheetBeyond() {
    edges.range("sheet", Cars::busy, 0, 3, (x, v) -> x.sheet(v, 8, 1));
    edges.range("sheet, missing", Cars::busy, 0, 3, (x, v) -> x.sheet(v, 0, 1));
    int[] others = {-1, 1, 4, 7, 9, 15, 17, 24, 32, 63, 65, 128, 264, -8, -64, Due.MIN, Due.MAX};
    for (int bits : others) {
      edges.refused("bits " + bits, Cars::busy, x -> x.sheet(0, bits, 1), Due.BEYOND);
      edges.refused("bits " + bits + ", n below 0", Cars::busy, x -> x.sheet(0, bits, -1), Due.BEYOND);
    }
    edges.refused("no such sheet, n below 0", Cars::busy, x -> x.sheet(4, 8, -1), Due.BEYOND);
  }

  private static void sheetSize() {
    int[] below = {-1, -2, -40, Due.MIN};
    int[] all = {0, 8, 16, 64};
    for (int n : below) {
      for (int bits : all) {
        edges.refused("n " + n + " of " + bits + " bits", Cars::busy, x -> x.sheet(0, bits, n), Due.SIZE);
        edges.refused("n " + n + ", it is missing", Cars::busy, x -> x.sheet(3, bits, n), Due.SIZE);
      }
    }
  }

  private static void sheetAbove() {
    int[] above = {41, 42, 296, 65576, Due.MAX};
    int[] all = {0, 8, 16, 64};
    for (int n : above) {
      for (int bits : all) {
        edges.refused("n " + n + " of " + bits + " bits", Cars::busy, x -> x.sheet(0, bits, n), Due.BEYOND);
        edges.refused("n " + n + ", it is missing", Cars::busy, x -> x.sheet(3, bits, n), Due.BEYOND);
      }
    }
  }

  private static void write() {
    long[][] rows = {
      {0, 0, 0, 0}, {127, 127, 127, 127}, {128, -128, 128, 128}, {255, -1, 255, 255}, {256, 0, 256, 256},
      {-1, -1, -1, -1}, {-128, -128, -128, -128}, {-129, 127, -129, -129}, {32767, -1, 32767, 32767},
      {32768, 0, -32768, 32768}, {65535, -1, -1, 65535}, {65536, 0, 0, 65536}, {-32769, -1, 32767, -32769},
      {1L << 31, 0, 0, 1L << 31}, {1L << 32, 0, 0, 1L << 32},
      {Long.MAX_VALUE, -1, -1, Long.MAX_VALUE}, {Long.MIN_VALUE, 0, 0, Long.MIN_VALUE}};
    for (int b = 0; b < 3; b++) {
      SeatStraps x = new SeatStraps();
      x.sheet(0, BITS[b], 40);
      for (long[] row : rows) {
        x.write(0, 39, row[0]);
        edges.is(row[0] + " of " + BITS[b] + " bits", x.write(0, 39, 0), row[b + 1]);
      }
      edges.is("the one ahead of it", x.write(0, 38, 0), 0);
      edges.is("no finding", x.status(-1), 0);
    }
    SeatStraps y = Cars.busy();
    y.sheet(3, 64, 1);
    y.write(3, 0, Due.MISSING);
    edges.is("a number like a finding", y.write(3, 0, 0), Due.MISSING);
    edges.is("is none", y.status(5), 0);
  }

  private static void writeNoSheet() {
    edges.range("sheet", Cars::busy, 0, 3, (x, v) -> x.write(v, 0, 1));
    edges.refused("nor such a number", Cars::busy, x -> x.write(-1, -1, 1), Due.BEYOND);
  }

  private static void writeMissing() {
    edges.refused("number 0", Cars::busy, x -> x.write(3, 0, 1), Due.MISSING);
    edges.refused("number -1", Cars::busy, x -> x.write(3, -1, 1), Due.MISSING);
    edges.refused("number 40", Cars::busy, x -> x.write(3, 40, 1), Due.MISSING);
    for (int s = 0; s < 4; s++) {
      int each = s;
      edges.refused("at first", SeatStraps::new, x -> x.write(each, 0, 1), Due.MISSING);
    }
  }

  private static void writeNoNumber() {
    edges.range("number, of 5", Cars::busy, 0, 4, (x, v) -> x.write(0, v, 1));
    edges.range("number, of 4", Cars::busy, 0, 3, (x, v) -> x.write(1, v, 1));
    edges.refused("of none", Cars::busy, x -> x.write(2, 0, 1), Due.BEYOND);
    edges.refused("of none", Cars::busy, x -> x.write(2, -1, 1), Due.BEYOND);
  }

  /** Sheet 0 has the numbers 1 to 40, sheet 1 has 40 noughts, both of 64 bits. */
  private static SeatStraps rows() {
    SeatStraps x = new SeatStraps();
    x.sheet(0, 64, 40);
    x.sheet(1, 64, 40);
    for (int i = 0; i < 40; i++) {
      x.write(0, i, i + 1);
    }
    return x;
  }

  private static void copy() {
    SeatStraps all = rows();
    edges.is("all", all.copy(0, 0, 1, 0, 40), 40);
    SeatStraps last = rows();
    edges.is("the last one", last.copy(0, 39, 1, 39, 1), 1);
    SeatStraps on = rows();
    edges.is("onto itself, one on", on.copy(0, 0, 0, 1, 39), 39);
    SeatStraps back = rows();
    edges.is("onto itself, one back", back.copy(0, 1, 0, 0, 39), 39);
    for (int i = 0; i < 40; i++) {
      edges.is("all", all.write(1, i, 0), i + 1);
      edges.is("which stay", all.write(0, i, 0), i + 1);
      edges.is("the last one", last.write(1, i, 0), i == 39 ? 40 : 0);
      edges.is("as they all were, one on", on.write(0, i, 0), Math.max(1, i));
      edges.is("as they all were, one back", back.write(0, i, 0), Math.min(40, i + 2));
    }
    edges.still("none", Cars::busy, x -> x.copy(0, 0, 0, 0, 0), 0);
    edges.still("none, from the end to the end", Cars::busy, x -> x.copy(0, 5, 0, 5, 0), 0);
    edges.still("none of none", Cars::busy, x -> x.copy(2, 0, 2, 0, 0), 0);
    edges.still("all onto themselves", Cars::busy, x -> x.copy(0, 0, 0, 0, 5), 5);
  }

  private static void copyNoSheet() {
    edges.range("the one", Cars::busy, 0, 3, (x, v) -> x.copy(v, 0, 0, 0, 0));
    edges.range("the other one", Cars::busy, 0, 3, (x, v) -> x.copy(0, 0, v, 0, 0));
    edges.range("the one, the other one is missing", Cars::busy, 0, 3, (x, v) -> x.copy(v, 0, 3, 0, 0));
    edges.range("the other one, the one is missing", Cars::busy, 0, 3, (x, v) -> x.copy(3, 0, v, 0, 0));
  }

  private static void copyMissing() {
    edges.refused("the one", Cars::busy, x -> x.copy(3, 0, 0, 0, 1), Due.MISSING);
    edges.refused("the other one", Cars::busy, x -> x.copy(0, 0, 3, 0, 1), Due.MISSING);
    edges.refused("both", Cars::busy, x -> x.copy(3, 0, 3, 0, 0), Due.MISSING);
    edges.refused("also n below 0", Cars::busy, x -> x.copy(0, -1, 3, -1, -1), Due.MISSING);
  }

  private static void copyKind() {
    for (int s = 0; s < 3; s++) {
      for (int t = 0; t < 3; t++) {
        int from = s;
        int to = t;
        if (s != t) {
          edges.refused(s + " to " + t, Cars::busy, x -> x.copy(from, 0, to, 0, 0), Due.KIND);
          edges.refused(s + " to " + t + ", n below 0", Cars::busy, x -> x.copy(from, 0, to, 0, -1), Due.KIND);
          edges.refused(s + " to " + t + ", n 41", Cars::busy, x -> x.copy(from, 0, to, 0, 41), Due.KIND);
        }
      }
    }
  }

  /** Sheet 3 has two numbers of 8 bits, sheet 0 five. */
  private static SeatStraps fiveAndTwo() {
    SeatStraps x = Cars.busy();
    x.sheet(3, 8, 2);
    return x;
  }

  private static void copyBeyond() {
    Supplier<SeatStraps> car = SheetsEdgesTest::fiveAndTwo;
    edges.range("n, to the smaller one", car, 0, 2, (x, v) -> x.copy(0, 0, 3, 0, v));
    edges.range("n, from the smaller one", car, 0, 2, (x, v) -> x.copy(3, 0, 0, 0, v));
    edges.range("from, one number", car, 0, 4, (x, v) -> x.copy(0, v, 3, 0, 1));
    edges.range("to, one number", car, 0, 1, (x, v) -> x.copy(0, 0, 3, v, 1));
    edges.range("from, none", car, 0, 5, (x, v) -> x.copy(0, v, 3, 0, 0));
    edges.range("to, none", car, 0, 2, (x, v) -> x.copy(0, 0, 3, v, 0));
    edges.range("from and to", car, 0, 4, (x, v) -> x.copy(0, v, 0, v, 1));
    edges.refused("sums that wrap", car, x -> x.copy(0, Due.MAX, 3, Due.MAX, Due.MAX), Due.BEYOND);
    edges.refused("sums that wrap", car, x -> x.copy(0, 1, 3, 1, Due.MAX), Due.BEYOND);
    edges.refused("sums that wrap", car, x -> x.copy(0, Due.MAX, 3, 0, 1), Due.BEYOND);
    edges.refused("sums that wrap", car, x -> x.copy(0, Due.MIN, 3, Due.MIN, Due.MIN), Due.BEYOND);
    edges.refused("sums that wrap", car, x -> x.copy(0, 5, 3, 2, Due.MIN), Due.BEYOND);
  }

  private static void lays() {
    SeatStraps x = Due.carOf(0, 0, 0, 0, 0, 0);
    x.sheet(0, 64, 40);
    long[] numbers = {0, 9, -1, 10, 1L << 32, Long.MIN_VALUE, 3};
    for (int i = 0; i < numbers.length; i++) {
      x.write(0, i, numbers[i]);
    }
    edges.is("two came", x.lays(0), 2);
    int[] moods = {0, 9, 5, 5, 5, 5};
    for (int child = 0; child < 6; child++) {
      edges.is("mood of " + child, x.of(child, 2), moods[child]);
    }
    edges.is("none of none", Cars.busy().lays(2), 0);
    edges.is("nobody there", rows().lays(0), 0);
    SeatStraps fewer = Due.carOf(0, 0, 0);
    fewer.sheet(1, 8, 2);
    edges.is("fewer numbers", fewer.lays(1), 2);
    edges.is("the last one keeps its own", fewer.of(0, 2) + fewer.of(1, 2) + fewer.of(2, 2), 5);
    SeatStraps cut = Due.carOf(0);
    cut.sheet(0, 8, 1);
    cut.write(0, 0, 256 + 7);
    edges.is("the lowest bits", cut.lays(0), 1);
    edges.is("the lowest bits", cut.of(0, 2), 7);
    SeatStraps out = Cars.busy();
    out.lays(0);
    edges.is("one in no mood sits on", out.now(3), 26);
  }

  private static void laysNoSheet() {
    edges.range("sheet", Cars::busy, 0, 3, (x, v) -> x.lays(v));
    edges.range("sheet, all missing", SeatStraps::new, 0, 3, (x, v) -> x.lays(v));
  }

  private static void laysMissing() {
    edges.refused("missing", Cars::busy, x -> x.lays(3), Due.MISSING);
    edges.refused("made missing", SheetsEdgesTest::madeMissing, x -> x.lays(0), Due.MISSING);
  }

  private static SeatStraps madeMissing() {
    SeatStraps x = Cars.busy();
    x.sheet(0, 0, 5);
    return x;
  }

  private static void book() {
    SeatStraps x = Due.carOf(0, 0);
    x.set(0, 2, 9);
    x.click(0, 0);
    x.sheet(0, 16, 40);
    edges.is("as many as can be", x.book(0, 0), 40);
    for (int i = 0; i < 40; i++) {
      // It gets out in 30 minutes, and keeps the mood that it has by then.
      edges.is("on " + i, x.write(0, i, 0), i > 24 ? 0 : 9 - (i + 2) / 3);
    }
    edges.is("nothing else", x.of(0, 2) * 10 + x.now(0), 90);
    edges.is("one that sits nowhere", x.book(0, 1), 40);
    edges.is("the first one", x.write(0, 0, 0), 5);
    edges.is("the last one", x.write(0, 39, 0), 5);
    edges.still("none", Cars::busy, y -> y.book(2, 1), 0);
    x.sheet(1, 8, 1);
    edges.is("now alone", x.book(1, 0), 1);
    edges.is("now alone", x.write(1, 0, 0), 9);
  }

  private static void bookNoSheet() {
    edges.range("sheet", Cars::busy, 0, 3, (x, v) -> x.book(v, 0));
    edges.range("sheet, nor such a child", SeatStraps::new, 0, 3, (x, v) -> x.book(v, 0));
  }

  private static void bookMissing() {
    edges.refused("missing", Cars::busy, x -> x.book(3, 0), Due.MISSING);
    edges.refused("missing, no such child", Cars::busy, x -> x.book(3, 6), Due.MISSING);
    edges.refused("made missing", SheetsEdgesTest::madeMissing, x -> x.book(0, -1), Due.MISSING);
  }

  private static void bookNoChild() {
    edges.range("child", Cars::busy, 0, 5, (x, v) -> x.book(0, v));
    edges.range("child, a sheet of none", Cars::busy, 0, 5, (x, v) -> x.book(2, v));
    edges.refused("nobody there", SheetsEdgesTest::rows, x -> x.book(1, 0), Due.BEYOND);
  }

  private static void read() {
    edges.still("none, it sits: all pairs", Cars::busy, x -> x.read(2, 1), 60);
    edges.still("none, it sits nowhere: all kinds", Cars::busy, x -> x.read(2, 0), 6);
    SeatStraps x = Due.carOf(1, 0);
    x.sheet(0, 64, 2);
    x.sheet(1, 8, 40);
    x.book(1, 1);
    edges.is("it sits nowhere, as long as can be", x.read(1, 1), 6);
    x.write(1, 39, 4);
    edges.is("the last number is asked", x.read(1, 1), 0);
    x.click(0, 0);
    x.write(0, 0, 5);
    // On a minute: CHILD, BIG, SELF 4 whatever TIGHT is; ARCHER 4 up to 6, 3 from 7 on; BABY alone 3; HOWLER 3 or 1.
    x.write(0, 1, 4);
    edges.is("4 then", x.read(0, 0), 30 + 7);
    x.write(0, 1, 3);
    edges.is("3 then", x.read(0, 0), 3 + 10 + 7);
    x.write(0, 1, 1);
    edges.is("1 then", x.read(0, 0), 3);
    x.write(0, 1, 5);
    edges.is("5 then", x.read(0, 0), 0);
    x.write(0, 1, 4 + (1L << 32));
    edges.is("4 in its lowest bits alone", x.read(0, 0), 0);
    x.write(0, 1, 4);
    x.write(0, 0, -1);
    edges.is("below 0 now", x.read(0, 0), 0);
    edges.is("nothing changes", x.of(0, 0) * 100 + x.of(0, 5) * 10 + x.of(0, 2), 195);
  }

  private static void readNoSheet() {
    edges.range("sheet", Cars::busy, 0, 3, (x, v) -> x.read(v, 0));
    edges.range("sheet, nor such a child", SeatStraps::new, 0, 3, (x, v) -> x.read(v, 0));
  }

  private static void readMissing() {
    edges.refused("missing", Cars::busy, x -> x.read(3, 0), Due.MISSING);
    edges.refused("missing, no such child", Cars::busy, x -> x.read(3, 6), Due.MISSING);
    edges.refused("made missing", SheetsEdgesTest::madeMissing, x -> x.read(0, -1), Due.MISSING);
  }

  private static void readNoChild() {
    edges.range("child", Cars::busy, 0, 5, (x, v) -> x.read(0, v));
    edges.range("child, a sheet of none", Cars::busy, 0, 5, (x, v) -> x.read(2, v));
    edges.refused("nobody there", SheetsEdgesTest::rows, x -> x.read(1, 0), Due.BEYOND);
  }
}
