/** The sentences of promises 5 to 11. */
final class ChildrenEdgesTest {
  private static final Edges edges = new Edges("ChildrenEdgesTest", 5, 11);

  public static void main(String[] args) {
    edges.sentence(5, "One more: the number.", ChildrenEdgesTest::child);
    edges.sentence(5, "BEYOND: kind.", ChildrenEdgesTest::childBeyond);
    edges.sentence(5, "FULL.", ChildrenEdgesTest::childFull);
    edges.sentence(6, "Of one: what 0 KIND", ChildrenEdgesTest::of);
    edges.sentence(6, "BEYOND.", ChildrenEdgesTest::ofBeyond);
    edges.sentence(7, "SIZE (what 1), MOOD (2), COAT (3), ARCH (4) of one becomes v", ChildrenEdgesTest::set);
    edges.sentence(7, "BEYOND.", ChildrenEdgesTest::setBeyond);
    edges.sentence(8, "One becomes one of another KIND: what it was.", ChildrenEdgesTest::turn);
    edges.sentence(8, "BEYOND.", ChildrenEdgesTest::turnBeyond);
    edges.sentence(9, "One as one of a kind: MOOD.", ChildrenEdgesTest::as);
    edges.sentence(9, "BEYOND: no such one, kind.", ChildrenEdgesTest::asBeyond);
    edges.sentence(9, "KIND: it isn't of that kind, nor of one under it.", ChildrenEdgesTest::asKind);
    edges.sentence(10, "SECONDS (whether it, or somebody there, sits or not).", ChildrenEdgesTest::seconds);
    edges.sentence(10, "BEYOND.", ChildrenEdgesTest::secondsBeyond);
    edges.sentence(11, "SNUG likewise.", ChildrenEdgesTest::snug);
    edges.sentence(11, "BEYOND.", ChildrenEdgesTest::snugBeyond);
    edges.end();
  }

  private static void child() {
    SeatStraps x = new SeatStraps();
    for (int i = 0; i < 6; i++) {
      edges.is("number", x.child(5), i);
      edges.is("how many", x.count(0), i + 1);
    }
  }

  private static void childBeyond() {
    edges.range("kind", SeatStraps::new, 0, 5, (x, v) -> x.child(v));
    edges.range("kind, where all six are", Cars::busy, 0, 5, (x, v) -> x.child(v));
  }

  private static void childFull() {
    for (int kind = 0; kind < 6; kind++) {
      int each = kind;
      edges.refused("a 7th", Cars::busy, x -> x.child(each), Due.FULL);
    }
    edges.still("undo() makes room", () -> {
      SeatStraps x = Due.carOf(0, 0, 0, 0, 0);
      x.image();
      x.child(0);
      x.undo();
      return x;
    }, x -> x.count(0), 5);
    SeatStraps y = Due.carOf(0, 0, 0, 0, 0);
    y.image();
    y.child(0);
    edges.is("a 7th", y.child(0), Due.FULL);
    y.undo();
    edges.is("a 6th, once undone", y.child(0), 5);
    edges.is("a 7th again", y.child(0), Due.FULL);
  }

  private static void of() {
    // ARCHER 1 in seat 0 with two twists: 9 less 2 less half of 5; two minutes: 1 and then 0.
    long[] archer = {1, 30, 4, 0, 6, 5, 0, 0};
    long[] selfNowhere = {5, 30, 7, 0, 0, 0, -1, 0};
    // BABY 3 in the middle had two beside it: 5 less 1, and a bribe.
    long[] baby = {3, 30, 7, 0, 0, 5, 1, 0};
    for (int what = 0; what < 8; what++) {
      int each = what;
      edges.still("ARCHER, what " + what, Cars::busy, x -> x.of(1, each), archer[what]);
      edges.still("SELF, what " + what, Cars::busy, x -> x.of(5, each), selfNowhere[what]);
      edges.still("BABY, what " + what, Cars::busy, x -> x.of(3, each), baby[what]);
    }
    edges.still("BABY nowhere frets as if it sat alone", Cars::waiting, x -> x.of(3, 7), 2);
    edges.still("BABY nowhere, though one sits in the middle", Cars::half, x -> x.of(3, 7), 2);
  }

  private static void ofBeyond() {
    edges.range("child", Cars::busy, 0, 5, (x, v) -> x.of(v, 0));
    edges.range("what", Cars::busy, 0, 7, (x, v) -> x.of(0, v));
    edges.refused("nobody there", SeatStraps::new, x -> x.of(0, 0), Due.BEYOND);
  }

  private static void set() {
    int[] most = {0, 99, 9, 1, 9};
    int[] atFirst = {0, 30, 5, 0, 0};
    for (int what = 1; what <= 4; what++) {
      SeatStraps x = Due.carOf(0, 0);
      int was = atFirst[what];
      for (int v = 0; v <= most[what]; v++) {
        edges.is("what it was", x.set(1, what, v), was);
        edges.is("what it is", x.of(1, what), v);
        was = v;
      }
      edges.is("the same again", x.set(1, what, was), was);
      edges.is("the other one", x.of(0, what), atFirst[what]);
    }
    SeatStraps y = Cars.busy();
    int tight = y.of(1, 5);
    y.set(1, 3, 1);
    y.set(1, 4, 9);
    edges.is("one that sits stays as tight", y.of(1, 5), tight);
    y.set(1, 2, 0);
    edges.is("one in no mood sits on", y.of(1, 6), 0);
  }

  private static void setBeyond() {
    edges.range("child", Cars::busy, 0, 5, (x, v) -> x.set(v, 2, 0));
    edges.range("what", Cars::busy, 1, 4, (x, v) -> x.set(1, v, 0));
    edges.range("SIZE", Cars::busy, 0, 99, (x, v) -> x.set(1, 1, v));
    edges.range("MOOD", Cars::busy, 0, 9, (x, v) -> x.set(1, 2, v));
    edges.range("COAT", Cars::busy, 0, 1, (x, v) -> x.set(1, 3, v));
    edges.range("ARCH", Cars::busy, 0, 9, (x, v) -> x.set(1, 4, v));
    edges.refused("nobody there", SeatStraps::new, x -> x.set(0, 1, 0), Due.BEYOND);
  }

  private static void turn() {
    for (int from = 0; from < 6; from++) {
      for (int to = 0; to < 6; to++) {
        SeatStraps x = Cars.busy();
        edges.is("what it was", x.turn(from, to), from);
        edges.is("what it is", x.of(from, 0), to);
        edges.is("what it becomes again", x.turn(from, from), to);
        Seen again = new Seen(x);
        edges.is("nothing else changed", again.differenceTo(new Seen(Cars.busy())).length(), 0);
      }
    }
  }

  private static void turnBeyond() {
    edges.range("child", Cars::busy, 0, 5, (x, v) -> x.turn(v, 0));
    edges.range("kind", Cars::busy, 0, 5, (x, v) -> x.turn(1, v));
    edges.refused("nobody there", SeatStraps::new, x -> x.turn(0, 0), Due.BEYOND);
  }

  private static void as() {
    int[][] chains = {{0}, {1, 0}, {2, 0}, {3, 0}, {4, 1, 0}, {5, 2, 0}};
    int[] moods = {5, 5, 5, 5, 2, 7};
    for (int child = 0; child < 6; child++) {
      for (int kind : chains[child]) {
        int each = child;
        edges.still(child + " as " + kind, Cars::waiting, x -> x.as(each, kind), moods[child]);
      }
    }
    SeatStraps y = Due.carOf(5);
    y.set(0, 2, 0);
    edges.is("the least mood", y.as(0, 2), 0);
    y.turn(0, 4);
    edges.is("as what it was turned to", y.as(0, 1), 0);
  }

  private static void asBeyond() {
    edges.range("child", Cars::busy, 0, 5, (x, v) -> x.as(v, 0));
    edges.range("kind", Cars::busy, 0, 5, (x, v) -> x.as(1, v));
    edges.refused("nobody there", SeatStraps::new, x -> x.as(0, 0), Due.BEYOND);
  }

  private static void asKind() {
    int[][] others = {{1, 2, 3, 4, 5}, {2, 3, 4, 5}, {1, 3, 4, 5}, {1, 2, 4, 5}, {2, 3, 5}, {1, 3, 4}};
    for (int child = 0; child < 6; child++) {
      for (int kind : others[child]) {
        int each = child;
        edges.refused(child + " as " + kind, Cars::waiting, x -> x.as(each, kind), Due.KIND);
      }
    }
  }

  private static void seconds() {
    // CHILD 0 with its coat and rain: 18 in a seat; seat 0 is twisted twice, seat 1 has crumbs.
    edges.still("it sits nowhere, nobody there", Cars::waiting, x -> x.seconds(0, 0), 28);
    edges.still("it sits nowhere, nobody there", Cars::waiting, x -> x.seconds(0, 1), 24);
    edges.still("it sits nowhere, nobody there", Cars::waiting, x -> x.seconds(0, 2), 18);
    edges.still("somebody there", Cars::busy, x -> x.seconds(0, 0), 31);
    edges.still("somebody there, two beside", Cars::busy, x -> x.seconds(0, 1), 42);
    edges.still("it sits, in its own seat", Cars::busy, x -> x.seconds(1, 0), 10 + 18 + 10 + 4 + 3);
    edges.still("it sits, in another's seat", Cars::busy, x -> x.seconds(1, 2), 10 + 18 + 4 + 3);
    edges.still("it sits, in its own seat, the middle one", Cars::half, x -> x.seconds(2, 1), 5 + 6 + 4);
    edges.still("it sits in the middle, and is beside", Cars::half, x -> x.seconds(2, 0), 5 + 10 + 4 + 3);
  }

  private static void secondsBeyond() {
    edges.range("child", Cars::busy, 0, 5, (x, v) -> x.seconds(v, 0));
    edges.range("seat", Cars::busy, 0, 2, (x, v) -> x.seconds(0, v));
    edges.refused("nobody there", SeatStraps::new, x -> x.seconds(0, 0), Due.BEYOND);
  }

  private static void snug() {
    edges.still("it sits nowhere, nobody there", Cars::waiting, x -> x.snug(0, 0), 4);
    edges.still("somebody there", Cars::busy, x -> x.snug(0, 0), 4);
    edges.still("it sits, in its own seat", Cars::busy, x -> x.snug(1, 0), 4);
    edges.still("it sits, in another's seat", Cars::busy, x -> x.snug(1, 1), 6);
    edges.still("BABY in the turned one", Cars::busy, x -> x.snug(3, 2), 9);
    edges.still("BABY in another one", Cars::busy, x -> x.snug(3, 0), 3);
  }

  private static void snugBeyond() {
    edges.range("child", Cars::busy, 0, 5, (x, v) -> x.snug(v, 0));
    edges.range("seat", Cars::busy, 0, 2, (x, v) -> x.snug(0, v));
    edges.refused("nobody there", SeatStraps::new, x -> x.snug(0, 0), Due.BEYOND);
  }
}
