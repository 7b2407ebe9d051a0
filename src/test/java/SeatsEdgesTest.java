/** The sentences of promises 1 to 4. */
final class SeatsEdgesTest {
  private static final Edges edges = new Edges("SeatsEdgesTest", 1, 4);

  public static void main(String[] args) {
    edges.sentence(1, "Nobody there; THE TAPE is empty, no image is kept.", SeatsEdgesTest::newObject);
    edges.sentence(2, "TWISTS (what 0), CRUMBS (1), TURNED (2) of a SEAT becomes v", SeatsEdgesTest::seat);
    edges.sentence(2, "BEYOND.", SeatsEdgesTest::seatBeyond);
    edges.sentence(3, "Of a SEAT: what 0 TWISTS", SeatsEdgesTest::seatOf);
    edges.sentence(3, "BEYOND.", SeatsEdgesTest::seatOfBeyond);
    edges.sentence(4, "RAIN becomes v", SeatsEdgesTest::rain);
    edges.sentence(4, "BEYOND.", SeatsEdgesTest::rainBeyond);
    edges.end();
  }

  private static void newObject() {
    edges.is("no child 0", new SeatStraps().of(0, 0), Due.BEYOND);
    edges.is("nobody in the middle", new SeatStraps().seatOf(1, 4), -1);
    edges.is("nobody sits", new SeatStraps().now(3), 0);
    edges.is("the tape", new SeatStraps().count(1), 0);
    edges.is("nothing to wipe", new SeatStraps().wipe(), 0);
    edges.is("a text of no byte", new SeatStraps().car(), -1);
    edges.is("nothing to undo", new SeatStraps().undo(), Due.NONE);
    edges.is("nothing to tear", new SeatStraps().tear(), 0);
    SeatStraps x = Cars.busy();
    SeatStraps y = new SeatStraps();
    edges.is("objects are apart", y.count(0) + y.count(1) + y.count(3) + y.status(-1), 0);
    edges.is("objects are apart", x.count(0), 6);
  }

  private static void seat() {
    int[] most = {5, 9, 1};
    for (int what = 0; what < 3; what++) {
      SeatStraps x = new SeatStraps();
      for (int v = 0; v <= most[what]; v++) {
        edges.is("what it was", x.seat(1, what, v), Math.max(0, v - 1));
        edges.is("what it is", x.seatOf(1, what), v);
      }
      edges.is("the same again", x.seat(1, what, most[what]), most[what]);
      edges.is("back to 0", x.seat(1, what, 0), most[what]);
    }
    SeatStraps y = Cars.busy();
    int tight = y.of(1, 5);
    y.seat(0, 0, 5);
    edges.is("who sits there stays as tight", y.of(1, 5), tight);
  }

  private static void seatBeyond() {
    edges.range("seat", Cars::busy, 0, 2, (x, v) -> x.seat(v, 0, 1));
    edges.range("what", Cars::busy, 0, 2, (x, v) -> x.seat(0, v, 1));
    edges.range("TWISTS", Cars::busy, 0, 5, (x, v) -> x.seat(2, 0, v));
    edges.range("CRUMBS", Cars::busy, 0, 9, (x, v) -> x.seat(2, 1, v));
    edges.range("TURNED", Cars::busy, 0, 1, (x, v) -> x.seat(2, 2, v));
    edges.refused("WEAR can't be put", Cars::busy, x -> x.seat(0, 3, 1), Due.BEYOND);
    edges.refused("who sits can't be put", Cars::busy, x -> x.seat(0, 4, -1), Due.BEYOND);
  }

  private static void seatOf() {
    long[] want = {2, 0, 0, 1, 1, 0, 4, 0, 1, 3, 0, 0, 1, 1, 4};
    for (int i = 0; i < 15; i++) {
      int seat = i / 5;
      int what = i % 5;
      edges.still("seat " + seat + ", what " + what, Cars::busy, x -> x.seatOf(seat, what), want[i]);
    }
    edges.still("nobody", Cars::waiting, x -> x.seatOf(0, 4), -1);
  }

  private static void seatOfBeyond() {
    edges.range("seat", Cars::busy, 0, 2, (x, v) -> x.seatOf(v, 3));
    edges.range("what", Cars::busy, 0, 4, (x, v) -> x.seatOf(1, v));
  }

  private static void rain() {
    SeatStraps x = new SeatStraps();
    for (int v = 0; v <= 9; v++) {
      edges.is("what it was", x.rain(v), Math.max(0, v - 1));
      edges.is("what it is", x.now(2), v);
    }
    edges.is("the same again", x.rain(9), 9);
    edges.is("back to 0", x.rain(0), 9);
  }

  private static void rainBeyond() {
    edges.range("v", Cars::busy, 0, 9, (x, v) -> x.rain(v));
  }
}
