/** The sentences of promises 29 to 31. */
final class TextEdgesTest {
  private static final Edges edges = new Edges("TextEdgesTest", 29, 31);

  public static void main(String[] args) {
    edges.sentence(29, "THE TAPE gets the n lowest bytes of a number behind it", TextEdgesTest::feed);
    edges.sentence(29, "BEYOND: n.", TextEdgesTest::feedBeyond);
    edges.sentence(29, "FULL.", TextEdgesTest::feedFull);
    edges.sentence(30, "THE TAPE is empty: how many it had.", TextEdgesTest::wipe);
    edges.sentence(31, "THE TAPE is THE TEXT of a CAR, whose ITEMS come to what there is", TextEdgesTest::car);
    edges.sentence(31, "With a FAULT: -1 less its place", TextEdgesTest::carWithFault);
    edges.end();
  }

  private static void feed() {
    SeatStraps x = new SeatStraps();
    edges.is("n 4", x.feed(0x7261696e, 4), 4);
    edges.is("n 1, the higher bytes are left out", x.feed(0x7fffff20, 1), 5);
    edges.is("n 2", x.feed(0x8000_3820, 2), 7);
    edges.is("n 3", x.feed(0xff20_2020, 3), 10);
    edges.is("rain 8", x.car(), 1);
    edges.is("rain 8", x.now(2), 8);
    SeatStraps high = new SeatStraps();
    edges.is("a negative number has bytes, too", high.feed(-1, 4), 4);
    edges.is("which begin no token", high.car(), -1);
    SeatStraps zero = new SeatStraps();
    edges.is("noughts are bytes", zero.feed(0, 3), 3);
    edges.is("noughts are bytes", zero.count(1), 3);
    SeatStraps late = Cars.taped(119);
    edges.is("the last byte", late.feed(0x20, 1), 120);
    edges.is("4 up to the last byte", Cars.taped(116).feed(0x20202020, 4), 120);
  }

  private static void feedBeyond() {
    edges.range("n", Cars::busy, 1, 4, (x, v) -> x.feed(0x20202020, v));
    edges.range("n, on a full tape", () -> Cars.taped(120), 1, 4, (x, v) -> x.feed(0x20202020, v));
  }

  private static void feedFull() {
    for (int bytes = 117; bytes <= 120; bytes++) {
      for (int n = 1; n <= 4; n++) {
        int had = bytes;
        int more = n;
        if (had + more > 120) {
          edges.refused(had + " and " + more, () -> Cars.taped(had), x -> x.feed(0x78787878, more), Due.FULL);
        } else {
          edges.is(had + " and " + more, Cars.taped(had).feed(0x78787878, more), had + more);
        }
      }
    }
    SeatStraps x = Cars.taped(120);
    edges.is("full", x.feed(0x20, 1), Due.FULL);
    x.wipe();
    edges.is("room again", x.feed(0x20, 1), 1);
  }

  private static void wipe() {
    edges.is("none", new SeatStraps().wipe(), 0);
    edges.is("120", Cars.taped(120).wipe(), 120);
    SeatStraps x = Cars.busy();
    edges.is("six", x.wipe(), 6);
    edges.is("none any more", x.wipe(), 0);
    edges.is("none any more", x.count(1), 0);
    edges.is("no text", x.car(), -1);
    edges.is("nothing else", x.now(2), 4);
    edges.is("no finding", x.status(-1), 1);
  }

  private static void car() {
    SeatStraps x = Cars.busy();
    edges.is("one item", x.car(), 1);
    edges.is("it came", x.now(2), 7);
    edges.is("the tape is empty", x.count(1), 0);
    edges.is("those that there are sit on", x.now(3), 26);
    edges.is("two that say other things", Due.car(x, "rain 1;rain 2"), 2);
    edges.is("the later one", x.now(2), 2);
    edges.is("a seat in which one sits", Due.car(x, "seat 0 twists 5 crumbs 9 turned"), 1);
    edges.is("it sits on as tight", x.of(1, 5) * 10 + x.seatOf(0, 4), 51);
    edges.is("what isn't told stays", Due.car(x, "seat 0"), 1);
    edges.is("what isn't told stays", x.seatOf(0, 0) * 100 + x.seatOf(0, 1) * 10 + x.seatOf(0, 3), 591);
    edges.is("but for turned", x.seatOf(0, 2), 0);
    edges.is("a full tape", Due.car(x, "rain 3" + " ".repeat(114)), 1);
    edges.is("a full tape", x.now(2), 3);
    SeatStraps five = Due.carOf(0, 0, 0, 0, 0);
    edges.is("a 6th", Due.car(five, "baby size 99 mood 9 coat"), 1);
    edges.is("its number", five.of(5, 0) * 1000 + five.of(5, 1) * 10 + five.of(5, 2), 3999);
  }

  private static void carWithFault() {
    String[] texts = {"", "rain 9;", "child;rain 9;seat 0 twists 5 turned;rain 10", "seat 1 turned;x", "rain 9" + " ".repeat(113) + "x"};
    int[] places = {0, 7, 41, 14, 119};
    for (int i = 0; i < texts.length; i++) {
      String text = texts[i];
      edges.still("'" + text + "'", TextEdgesTest::fiveWithoutTape, x -> Due.car(x, text), -1 - places[i]);
    }
    edges.still("120 blanks", TextEdgesTest::fiveWithoutTape, x -> Due.car(x, " ".repeat(120)), -121);
    edges.still("a 7th", TextEdgesTest::fiveWithoutTape, x -> Due.car(x, "rain 9;self;self"), -1 - 12);
  }

  private static SeatStraps fiveWithoutTape() {
    SeatStraps x = Due.carOf(4, 3, 2, 1, 0);
    x.click(0, 1);
    x.seat(0, 1, 4);
    x.rain(3);
    x.image();
    x.seat(1, 2, 1);
    x.drive(1);
    return x;
  }
}
