/** The sentences of promises 38 to 42. */
final class ImagesEdgesTest {
  private static final Edges edges = new Edges("ImagesEdgesTest", 38, 42);

  public static void main(String[] args) {
    edges.sentence(38, "All that section 1 tells (THE TAPE not) is kept: 1.", ImagesEdgesTest::image);
    edges.sentence(39, "It becomes what was kept latest (which stays): how many CHILDREN.", ImagesEdgesTest::undo);
    edges.sentence(39, "NONE: nothing is kept.", ImagesEdgesTest::undoNone);
    edges.sentence(40, "Nothing is kept: 1 if something was, else 0.", ImagesEdgesTest::tear);
    edges.sentence(41, "0 CHILDREN, 1 bytes of THE TAPE, 2 those that sit, 3 WEAR", ImagesEdgesTest::count);
    edges.sentence(41, "BEYOND: another what.", ImagesEdgesTest::countBeyond);
    edges.sentence(42, "How many acts answered a finding ever (undo() takes none back)", ImagesEdgesTest::status);
    edges.sentence(42, "BEYOND (counted from then on): another one.", ImagesEdgesTest::statusBeyond);
    edges.end();
  }

  /** The call comes behind image(), and undo() takes it back whole. */
  private static void undone(String what, Edges.Call call) {
    SeatStraps x = Cars.half();
    edges.is("image()", x.image(), 1);
    call.of(x);
    edges.is("undo() of " + what, x.undo(), 6);
    SeatStraps y = Cars.half();
    y.image();
    y.undo();
    edges.is("undone: " + what, new Seen(x).differenceTo(new Seen(y)).length(), 0);
  }

  private static void image() {
    undone("TWISTS", x -> x.seat(0, 0, 5));
    undone("CRUMBS", x -> x.seat(1, 1, 9));
    undone("TURNED", x -> x.seat(2, 2, 0));
    undone("RAIN", x -> x.rain(0));
    undone("SIZE", x -> x.set(5, 1, 99));
    undone("MOOD", x -> x.set(0, 2, 0));
    undone("COAT", x -> x.set(1, 3, 1));
    undone("ARCH", x -> x.set(1, 4, 9));
    undone("KIND", x -> x.turn(3, 4));
    undone("who sits, TIGHT, WEAR, SPENT, ARCH", x -> x.click(1, 2));
    undone("who got out", x -> x.letOut(2));
    undone("MINUTE", x -> x.drive(60));
    undone("a bribe", x -> x.bribe(2));
    SeatStraps tape = Cars.half();
    tape.image();
    tape.wipe();
    tape.undo();
    edges.is("THE TAPE not", tape.count(1), 0);
    tape.feed(0x20, 1);
    tape.undo();
    edges.is("THE TAPE not", tape.count(1), 1);
    tape.sheet(0, 16, 1);
    tape.undo();
    edges.is("nor sheets, which section 3 tells", tape.write(0, 1, 0), Due.BEYOND);
    edges.is("of nobody", new SeatStraps().image(), 1);
  }

  private static void undo() {
    SeatStraps x = new SeatStraps();
    x.image();
    x.child(0);
    edges.is("nobody there", x.undo(), 0);
    edges.is("nobody there", x.count(0), 0);
    x.child(1);
    x.image();
    x.child(2);
    x.child(3);
    edges.is("the latest", x.undo(), 1);
    edges.is("the latest", x.of(0, 0), 1);
    x.child(4);
    edges.is("it stays", x.undo(), 1);
    edges.is("it stays, with nothing between", x.undo(), 1);
    edges.is("the new one is gone", x.of(1, 0), Due.BEYOND);
    SeatStraps more = Cars.waiting();
    more.image();
    edges.is("as many as can be", more.undo(), 6);
    SeatStraps back = Due.carOf(0, 0);
    back.click(0, 1);
    back.image();
    back.undo();
    back.drive(60);
    edges.is("what goes on behind it", back.now(3), 0);
    back.undo();
    edges.is("leaves the image as it is", back.now(3), 1);
  }

  private static void undoNone() {
    edges.refused("never was", SeatStraps::new, x -> x.undo(), Due.NONE);
    edges.refused("torn", ImagesEdgesTest::torn, x -> x.undo(), Due.NONE);
  }

  private static SeatStraps torn() {
    SeatStraps x = Cars.busy();
    x.tear();
    return x;
  }

  private static void tear() {
    edges.still("never was", SeatStraps::new, x -> x.tear(), 0);
    edges.still("torn before", ImagesEdgesTest::torn, x -> x.tear(), 0);
    SeatStraps x = Cars.busy();
    edges.is("something was", x.tear(), 1);
    edges.is("nothing any more", x.tear(), 0);
    x.image();
    x.image();
    edges.is("two at once", x.tear(), 1);
    edges.is("two at once", x.tear(), 0);
    x.image();
    x.undo();
    edges.is("undone, it stays", x.tear(), 1);
    edges.is("the car stays", x.now(3), 26);
  }

  private static void count() {
    int[] busy = {6, 6, 3, 3};
    for (int what = 0; what < 4; what++) {
      int each = what;
      edges.still("what " + what, Cars::busy, x -> x.count(each), busy[what]);
      edges.still("what " + what + ", nobody there", SeatStraps::new, x -> x.count(each), 0);
    }
    edges.is("a full tape", Cars.taped(120).count(1), 120);
    SeatStraps x = Cars.busy();
    x.drive(60);
    edges.is("nobody sits", x.count(2), 0);
    edges.is("WEAR stays", x.count(3), 3);
  }

  private static void countBeyond() {
    edges.range("what", Cars::busy, 0, 3, (x, v) -> x.count(v));
  }

  private static void status() {
    SeatStraps x = Due.carOf(0, 0, 0, 0, 0, 0);
    x.image();
    Edges.Call[] acts = {
      y -> y.rain(10), y -> y.child(0), y -> y.as(0, 1), y -> y.firstOut(), y -> y.letOut(0),
      y -> y.write(0, 0, 0), y -> y.all(3)};
    for (int which = 0; which < 7; which++) {
      edges.is("none yet of " + which, x.status(which), 0);
      for (int i = 0; i <= which; i++) {
        edges.is("finding", acts[which].of(x), -1000000001 - which);
      }
    }
    x.undo();
    for (int which = 0; which < 7; which++) {
      edges.is("of " + which + ", not taken back", x.status(which), which + 1);
    }
    edges.is("all", x.status(-1), 28);
    x.image();
    x.tear();
    x.car();
    edges.is("a fault is none", x.status(-1), 28);
    edges.still("to ask changes none", Cars::busy, y -> y.status(-1), 1);
    edges.is("of none", new SeatStraps().status(-1), 0);
  }

  private static void statusBeyond() {
    edges.range("which", Cars::busy, -1, 6, (x, v) -> x.status(v));
    SeatStraps x = new SeatStraps();
    edges.is("another one", x.status(7), Due.BEYOND);
    edges.is("counted from then on", x.status(0), 1);
    edges.is("counted from then on", x.status(-1), 1);
    edges.is("another one", x.status(-2), Due.BEYOND);
    edges.is("counted from then on", x.status(0), 2);
    edges.is("counted from then on", x.status(-1), 2);
  }
}
