import java.util.function.Supplier;

/** The sentences of the section "Terms"; those of kinds, minutes and the text stand in classes of their own. */
final class TermsEdgesTest {
  private static final int TERMS = Document.TERMS;
  private static final Edges edges = new Edges("TermsEdgesTest", TERMS, TERMS);

  public static void main(String[] args) {
    edges.sentence(TERMS, "FINDINGS are answers below -1000000000", TermsEdgesTest::findings);
    edges.sentence(TERMS, "Each act tells its findings in the order in which they are asked", TermsEdgesTest::order);
    edges.sentence(TERMS, "Quotients are cut.", TermsEdgesTest::quotients);
    edges.sentence(TERMS, "Sets are told by bits.", TermsEdgesTest::sets);
    edges.sentence(TERMS, "SEATS 0 to 2 (1 in the middle; BESIDE: one off)", TermsEdgesTest::seats);
    edges.sentence(TERMS, "RAIN (0 to 9; 0 at first).", TermsEdgesTest::rain);
    edges.sentence(TERMS, "MINUTE: 0 at first (9999 at most).", TermsEdgesTest::minute);
    edges.sentence(TERMS, "SPENT (seconds; 0 at first, held to 99999).", TermsEdgesTest::spent);
    edges.sentence(TERMS, "CHILDREN 0, 1, .. (at most 6) are of KINDS", TermsEdgesTest::children);
    edges.sentence(TERMS, "ON: n MINUTES go on with all as it is; nothing changes.", TermsEdgesTest::on);
    edges.sentence(TERMS, "SHEETS 0 to 3 are rows of at most 40 numbers", TermsEdgesTest::sheets);
    new KindTerms(edges).test();
    new MinuteTerms(edges).test();
    new TextTerms(edges).test();
    edges.end();
  }

  private static void findings() {
    SeatStraps x = Due.carOf(0, 0, 0, 0, 0, 0);
    edges.is("BEYOND", x.rain(10), -1000000001);
    edges.is("FULL", x.child(0), -1000000002);
    edges.is("KIND", x.as(0, 1), -1000000003);
    edges.is("NONE", x.undo(), -1000000004);
    edges.is("STATE", x.letOut(0), -1000000005);
    edges.is("MISSING", x.lays(0), -1000000006);
    edges.is("SIZE", x.all(0), -1000000007);
    edges.is("BEYOND in longs", x.write(4, 0, 0), -1000000001L);
    edges.is("MISSING in longs", x.write(0, 0, 0), -1000000006L);
    edges.is("nine of them", x.status(-1), 9);
  }

  private static void refused(String what, Supplier<SeatStraps> car, Edges.Call call, int finding) {
    edges.refused(what, car, call, finding);
  }

  private static void order() {
    refused("child: BEYOND, FULL", Cars::busy, x -> x.child(6), Due.BEYOND);
    refused("as: BEYOND, KIND", Cars::busy, x -> x.as(6, 5), Due.BEYOND);
    refused("as: BEYOND, KIND", Cars::busy, x -> x.as(0, 6), Due.BEYOND);
    refused("click: BEYOND, STATE", Cars::busy, x -> x.click(6, 0), Due.BEYOND);
    refused("click: BEYOND, STATE", Cars::busy, x -> x.click(1, 3), Due.BEYOND);
    refused("letOut: BEYOND, STATE", Cars::waiting, x -> x.letOut(6), Due.BEYOND);
    refused("drive: BEYOND, STATE", Cars::late, x -> x.drive(61), Due.BEYOND);
    refused("out: BEYOND, STATE", Cars::waiting, x -> x.out(6), Due.BEYOND);
    refused("quick: BEYOND, NONE", Cars::busy, x -> x.quick(6), Due.BEYOND);
    refused("quick: STATE, NONE", Cars::busy, x -> x.quick(1), Due.STATE);
    refused("safe: BEYOND, NONE", Cars::busy, x -> x.safe(6), Due.BEYOND);
    refused("safe: STATE, NONE", Cars::busy, x -> x.safe(1), Due.STATE);
    refused("all: BEYOND, SIZE, STATE", Cars::busy, x -> x.all(64), Due.BEYOND);
    refused("all: SIZE, STATE", Cars::busy, x -> x.all(3), Due.SIZE);
    refused("way: BEYOND, SIZE, STATE", Cars::busy, x -> x.way(3, 3), Due.BEYOND);
    refused("way: BEYOND, SIZE, STATE", Cars::busy, x -> x.way(64, 0), Due.BEYOND);
    refused("way: SIZE, STATE", Cars::busy, x -> x.way(3, 0), Due.SIZE);
    refused("bribes: BEYOND, STATE", Cars::busy, x -> x.bribes(0, 61), Due.BEYOND);
    refused("bribes: STATE, NONE", Cars::busy, x -> x.bribes(0, 60), Due.STATE);
    refused("mood: BEYOND, STATE", Cars::busy, x -> x.mood(0, 0), Due.BEYOND);
    refused("mood: STATE, NONE", Cars::busy, x -> x.mood(0, 60), Due.STATE);
    refused("worst: BEYOND, NONE", Cars::waiting, x -> x.worst(61), Due.BEYOND);
    refused("feed: BEYOND, FULL", () -> Cars.taped(120), x -> x.feed(0, 5), Due.BEYOND);
    orderOfSheets();
  }

  private static void orderOfSheets() {
    refused("sheet: BEYOND, SIZE", Cars::busy, x -> x.sheet(4, 8, -1), Due.BEYOND);
    refused("sheet: BEYOND, SIZE", Cars::busy, x -> x.sheet(0, 9, -1), Due.BEYOND);
    refused("write: BEYOND ahead", Cars::busy, x -> x.write(4, -1, 0), Due.BEYOND);
    refused("write: MISSING, BEYOND", Cars::busy, x -> x.write(3, -1, 0), Due.MISSING);
    refused("copy: BEYOND, MISSING", Cars::busy, x -> x.copy(4, 0, 3, 0, 0), Due.BEYOND);
    refused("copy: BEYOND, MISSING", Cars::busy, x -> x.copy(3, 0, 4, 0, 0), Due.BEYOND);
    refused("copy: MISSING, KIND, BEYOND", Cars::busy, x -> x.copy(0, -1, 3, 0, 0), Due.MISSING);
    refused("copy: KIND, BEYOND", Cars::busy, x -> x.copy(0, -1, 1, 0, 0), Due.KIND);
    refused("lays: BEYOND, MISSING", SeatStraps::new, x -> x.lays(4), Due.BEYOND);
    refused("book: BEYOND ahead", Cars::busy, x -> x.book(4, 6), Due.BEYOND);
    refused("book: MISSING, BEYOND", Cars::busy, x -> x.book(3, 6), Due.MISSING);
    refused("read: BEYOND ahead", Cars::busy, x -> x.read(4, 6), Due.BEYOND);
    refused("read: MISSING, BEYOND", Cars::busy, x -> x.read(3, 6), Due.MISSING);
  }

  private static void quotients() {
    int[] halves = {9, 9, 8, 8, 7, 7, 6, 6, 5, 5};
    for (int arch = 0; arch <= 9; arch++) {
      SeatStraps x = Due.carOf(1);
      x.set(0, 4, arch);
      edges.is("half of " + arch, x.snug(0, 0), halves[arch]);
    }
    for (int size = 0; size <= 99; size++) {
      SeatStraps x = Due.carOf(2);
      x.set(0, 1, size);
      edges.is("a 40th of " + size, x.snug(0, 0), size < 40 ? 9 : size < 80 ? 8 : 7);
    }
  }

  private static void sets() {
    for (int child = 0; child < 6; child++) {
      SeatStraps x = Due.carOfAllKinds();
      x.click(child, 1);
      edges.is("child " + child + " sits", x.now(3), 1 << child);
      edges.is("child " + child + " sits then", x.drive(1), 1 << child);
    }
    SeatStraps three = Due.carOfAllKinds();
    three.click(5, 0);
    three.click(0, 1);
    three.click(3, 2);
    edges.is("5, 0 and 3", three.now(3), 32 + 1 + 8);
    edges.is("the least of 5, 4, 3", Due.carOf(0, 0, 0, 0, 0, 0).way(56, 0), 31);
  }

  private static void seats() {
    edges.range("SEATS", Cars::busy, 0, 2, (x, v) -> x.seatOf(v, 0));
    edges.range("TWISTS", Cars::busy, 0, 5, (x, v) -> x.seat(0, 0, v));
    edges.range("CRUMBS", Cars::busy, 0, 9, (x, v) -> x.seat(0, 1, v));
    edges.range("TURNED", Cars::busy, 0, 1, (x, v) -> x.seat(0, 2, v));
    SeatStraps x = new SeatStraps();
    for (int seat = 0; seat < 3; seat++) {
      for (int what = 0; what < 5; what++) {
        edges.is("at first", x.seatOf(seat, what), what == 4 ? -1 : 0);
      }
    }
    SeatStraps y = Due.carOf(3, 0);
    y.click(0, 0);
    y.click(1, 2);
    edges.is("two off isn't beside", y.of(0, 7), 2);
    edges.is("nor is it in the way", y.seconds(0, 0), 15);
    y.letOut(1);
    y.click(1, 1);
    edges.is("one off is", y.of(0, 7), 1);
    wear();
  }

  /** No run of 512 calls wears a seat so much; behind them the program holds to it none the less. */
  private static void wear() {
    SeatStraps x = Due.carOf(0);
    for (int i = 1; i <= 9999; i++) {
      x.click(0, 1);
      x.letOut(0);
      if (i == 1 || i == 250 || i == 9998 || i == 9999) {
        edges.is("WEAR", x.seatOf(1, 3), i);
      }
    }
    x.click(0, 1);
    edges.is("WEAR is 9999 at most", x.seatOf(1, 3), 9999);
    edges.is("of this seat alone", x.count(3), 9999);
  }

  private static void rain() {
    edges.is("at first", new SeatStraps().now(2), 0);
    edges.range("RAIN", Cars::busy, 0, 9, (x, v) -> x.rain(v));
    edges.is("9 in a text", Due.car(new SeatStraps(), "rain 9"), 1);
    edges.is("10 in a text", Due.car(new SeatStraps(), "rain 10"), -6);
  }

  private static void minute() {
    edges.is("at first", new SeatStraps().now(0), 0);
    edges.is("the last one", Cars.late().now(0), 9999);
    edges.refused("no further", Cars::late, x -> x.drive(1), Due.STATE);
    SeatStraps x = Cars.late();
    x.drive(1);
    edges.is("it stays", x.now(0), 9999);
    x.click(0, 0);
    edges.is("what it frets in the last one", x.of(0, 7), 1);
  }

  /** No run of 512 calls spends so much; behind them the program holds to it none the less. */
  private static void spent() {
    SeatStraps x = Due.carOf(0);
    edges.is("at first", x.now(1), 0);
    for (int i = 1; i <= 9999; i++) {
      x.click(0, 0);
      x.letOut(0);
      if (i == 1 || i == 250 || i == 9999) {
        edges.is("10 each time", x.now(1), 10 * i);
      }
    }
    x.click(0, 0);
    edges.is("held to 99999", x.now(1), 99999);
    x.letOut(0);
    x.click(0, 0);
    edges.is("it stays", x.now(1), 99999);
  }

  private static void children() {
    SeatStraps x = Due.carOfAllKinds();
    edges.is("a 7th", x.child(0), Due.FULL);
    int[] atFirst = {0, 30, 5, 0, 0, 0, -1};
    for (int child = 0; child < 6; child++) {
      edges.is("its kind", x.of(child, 0), child);
      for (int what = 1; what < 7; what++) {
        edges.is("at first, what " + what, x.of(child, what), atFirst[what]);
      }
    }
    int[] under = {0, 0, 0, 0, 1, 2};
    for (int child = 0; child < 6; child++) {
      edges.is("the kind above", x.as(child, under[child]), 5);
      edges.is("CHILD is above all", x.as(child, 0), 5);
    }
    edges.range("KINDS", Cars::busy, 0, 5, (y, v) -> y.turn(0, v));
    edges.range("SIZE", Cars::busy, 0, 99, (y, v) -> y.set(0, 1, v));
    edges.range("MOOD", Cars::busy, 0, 9, (y, v) -> y.set(0, 2, v));
    edges.range("COAT", Cars::busy, 0, 1, (y, v) -> y.set(0, 3, v));
    edges.range("ARCH", Cars::busy, 0, 9, (y, v) -> y.set(0, 4, v));
    x.click(0, 0);
    edges.is("as TIGHT as can be", x.of(0, 5), 9);
    x.letOut(0);
    edges.is("not where it doesn't sit", x.of(0, 5), 0);
  }

  private static void on() {
    int[] minutes = {0, 1, 60};
    for (int n : minutes) {
      edges.still("on " + n, Cars::busy, x -> x.on(1, n, 0), n < 60 ? 4 : 0);
      edges.still("worst, on " + n, Cars::busy, x -> x.worst(n), n < 60 ? 4 : 1);
    }
    edges.still("out", Cars::busy, x -> x.out(1), 12);
    edges.still("firstOut", Cars::busy, x -> x.firstOut(), 7);
    edges.still("bribes", Cars::busy, x -> x.bribes(1, 12), 1);
    edges.still("mood", Cars::busy, x -> x.mood(1, 12), 5);
    edges.still("read", Cars::busy, x -> x.read(0, 1), 0);
    SeatStraps late = Cars.late();
    late.click(0, 0);
    int[] behind = {5, 4, 4, 4, 3};
    for (int n = 0; n < behind.length; n++) {
      edges.is("from the last minute on " + n, late.on(0, n, 0), behind[n]);
    }
    edges.is("from the last minute on", late.out(0), 18);
    edges.is("MINUTE stays", late.now(0), 9999);
  }

  private static void sheets() {
    SeatStraps x = new SeatStraps();
    for (int s = 0; s < 4; s++) {
      edges.is("missing at first", x.lays(s), Due.MISSING);
    }
    edges.range("sheets", Cars::busy, 0, 3, (y, v) -> y.sheet(v, 8, 0));
    edges.refused("41 numbers", Cars::busy, y -> y.sheet(0, 64, 41), Due.BEYOND);
    int[] bits = {8, 16, 64};
    for (int s = 0; s < 3; s++) {
      edges.is("40 numbers", x.sheet(s, bits[s], 40), 40);
      edges.is("the last one", x.write(s, 39, Long.MAX_VALUE), 0);
      edges.is("its bits", x.write(s, 39, 0), s < 2 ? -1 : Long.MAX_VALUE);
      edges.is("none behind it", x.write(s, 40, 0), Due.BEYOND);
    }
  }
}
