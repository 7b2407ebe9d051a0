import java.util.function.Supplier;

/** The sentences of promises 20 to 28. */
final class BestEdgesTest {
  private static final Edges edges = new Edges("BestEdgesTest", 20, 28);

  public static void main(String[] args) {
    edges.sentence(20, "The SEAT where nobody sits in which one that sits nowhere takes fewest SECONDS", BestEdgesTest::quick);
    edges.sentence(20, "BEYOND.", BestEdgesTest::quickBeyond);
    edges.sentence(20, "STATE: it sits.", BestEdgesTest::quickState);
    edges.sentence(20, "NONE: all are taken.", BestEdgesTest::quickNone);
    edges.sentence(21, "The SEAT where nobody sits in which it would be SNUG most", BestEdgesTest::safe);
    edges.sentence(21, "BEYOND.", BestEdgesTest::safeBeyond);
    edges.sentence(21, "STATE.", BestEdgesTest::safeState);
    edges.sentence(21, "NONE likewise.", BestEdgesTest::safeNone);
    edges.sentence(22, "All of a set of just three, all SEATS being empty", BestEdgesTest::all);
    edges.sentence(22, "BEYOND: set.", BestEdgesTest::allBeyond);
    edges.sentence(22, "SIZE: not three.", BestEdgesTest::allSize);
    edges.sentence(22, "STATE: anybody sits.", BestEdgesTest::allState);
    edges.sentence(23, "The way in which that is so, step 0 to 2", BestEdgesTest::way);
    edges.sentence(23, "BEYOND: also step.", BestEdgesTest::wayBeyond);
    edges.sentence(23, "SIZE, STATE likewise.", BestEdgesTest::waySizeState);
    edges.sentence(24, "The KIND as one of which one takes fewest SECONDS in a SEAT", BestEdgesTest::kind);
    edges.sentence(24, "BEYOND.", BestEdgesTest::kindBeyond);
    edges.sentence(25, "How many BRIBES (0 to 9) now are needed", BestEdgesTest::bribes);
    edges.sentence(25, "BEYOND.", BestEdgesTest::bribesBeyond);
    edges.sentence(25, "STATE: it sits nowhere.", BestEdgesTest::bribesState);
    edges.sentence(25, "NONE.", BestEdgesTest::bribesNone);
    edges.sentence(26, "1000, and how many SECONDS less one takes", BestEdgesTest::coat);
    edges.sentence(26, "BEYOND.", BestEdgesTest::coatBeyond);
    edges.sentence(27, "The least MOOD (0 to 9) with which one that sits", BestEdgesTest::mood);
    edges.sentence(27, "BEYOND.", BestEdgesTest::moodBeyond);
    edges.sentence(27, "STATE: it sits nowhere.", BestEdgesTest::moodState);
    edges.sentence(27, "NONE.", BestEdgesTest::moodNone);
    edges.sentence(28, "The one that sits whose MOOD is least ON n MINUTES (0 to 60)", BestEdgesTest::worst);
    edges.sentence(28, "BEYOND.", BestEdgesTest::worstBeyond);
    edges.sentence(28, "NONE: nobody sits (now).", BestEdgesTest::worstNone);
    edges.end();
  }

  private static void quick() {
    edges.still("CHILD", Cars::waiting, x -> x.quick(0), 2);
    edges.still("all alike", () -> Due.carOf(0), x -> x.quick(0), 0);
    SeatStraps x = Due.carOf(0, 0, 0);
    x.click(1, 0);
    edges.is("not where one sits, not in its way", x.quick(0), 2);
    x.seat(2, 1, 4);
    edges.is("8 in the middle, 8 there: the least", x.quick(0), 1);
    x.seat(2, 1, 3);
    edges.is("8 in the middle, 6 there", x.quick(0), 2);
    x.click(2, 2);
    edges.is("the only one that is left", x.quick(0), 1);
    SeatStraps y = Due.carOf(0, 0);
    y.click(1, 1);
    edges.is("both sides alike", y.quick(0), 0);
    y.seat(0, 1, 1);
    edges.is("fewer crumbs", y.quick(0), 2);
  }

  private static void quickBeyond() {
    edges.range("child", Cars::waiting, 0, 5, (x, v) -> x.quick(v));
    edges.range("child, where all are taken", Cars::busy, 0, 5, (x, v) -> x.quick(v));
    edges.refused("nobody there", SeatStraps::new, x -> x.quick(0), Due.BEYOND);
  }

  private static void quickState() {
    edges.refused("it sits", Cars::half, x -> x.quick(2), Due.STATE);
    edges.refused("it sits, and all are taken", Cars::busy, x -> x.quick(1), Due.STATE);
  }

  private static void quickNone() {
    edges.refused("all are taken", Cars::busy, x -> x.quick(0), Due.NONE);
    SeatStraps x = Cars.busy();
    x.letOut(3);
    edges.is("one isn't any more", x.quick(0), 1);
  }

  private static void safe() {
    edges.still("CHILD", Cars::waiting, x -> x.safe(0), 1);
    edges.still("BABY", Cars::waiting, x -> x.safe(3), 2);
    edges.still("not where one sits", Cars::half, x -> x.safe(0), 2);
    edges.still("all alike", () -> Due.carOf(0), x -> x.safe(0), 0);
    SeatStraps x = Due.carOf(3);
    x.set(0, 3, 1);
    for (int seat = 0; seat < 3; seat++) {
      x.seat(seat, 0, 5);
    }
    edges.is("all are 0", x.safe(0), 0);
    x.seat(2, 0, 1);
    edges.is("just 1", x.snug(0, 2), 1);
    edges.is("1 is more than 0", x.safe(0), 2);
  }

  private static void safeBeyond() {
    edges.range("child", Cars::waiting, 0, 5, (x, v) -> x.safe(v));
    edges.range("child, where all are taken", Cars::busy, 0, 5, (x, v) -> x.safe(v));
    edges.refused("nobody there", SeatStraps::new, x -> x.safe(0), Due.BEYOND);
  }

  private static void safeState() {
    edges.refused("it sits", Cars::half, x -> x.safe(2), Due.STATE);
    edges.refused("it sits, and all are taken", Cars::busy, x -> x.safe(1), Due.STATE);
  }

  private static void safeNone() {
    edges.refused("all are taken", Cars::busy, x -> x.safe(0), Due.NONE);
    SeatStraps x = Cars.busy();
    x.letOut(3);
    edges.is("one isn't any more", x.safe(0), 1);
  }

  private static void all() {
    // Seats 0, 1, 2 take 10, 6 and 0 more, rain 4 each; with the middle one first 3 for each other one.
    edges.still("CHILD with a coat, ARCHER, BIG", Cars::waiting, x -> x.all(7), 14 + 25 + 5 + 16 + 12 + 6);
    edges.still("BABY where it is turned, HOWLER, SELF", Cars::waiting, x -> x.all(56), 10 + 20 + 0 + 16 + 12 + 6);
    edges.still("the first and the last ones", Cars::waiting, x -> x.all(49), 14 + 20 + 0 + 16 + 12 + 6);
    SeatStraps three = Due.carOf(5, 5, 5);
    for (int child = 0; child < 3; child++) {
      three.set(child, 2, 9);
    }
    edges.is("as few as can be", three.all(7), 6);
    three.seat(1, 0, 5);
    edges.is("the middle one can't be left out", three.all(7), 31);
  }

  private static void allBeyond() {
    edges.range("set, of six", Cars::waiting, 0, 63, (x, v) -> x.all(v));
    edges.range("set, of three", () -> Due.carOf(0, 0, 0), 0, 7, (x, v) -> x.all(v));
    edges.range("set, of none", SeatStraps::new, 0, 0, (x, v) -> x.all(v));
    edges.refused("three, but one isn't there", () -> Due.carOf(0, 0, 0), x -> x.all(11), Due.BEYOND);
    edges.refused("the sign", Cars::waiting, x -> x.all(Due.MIN + 3), Due.BEYOND);
  }

  private static void allSize() {
    for (int set = 0; set < 64; set++) {
      int each = set;
      if (Integer.bitCount(set) == 3) {
        edges.is("three", Cars.waiting().all(set) > 0 ? 1 : 0, 1);
      } else {
        edges.refused("set " + set, Cars::waiting, x -> x.all(each), Due.SIZE);
      }
    }
  }

  private static void allState() {
    edges.refused("one of them sits", Cars::half, x -> x.all(7), Due.STATE);
    edges.refused("another one sits", Cars::half, x -> x.all(56), Due.STATE);
    edges.refused("all are taken", Cars::busy, x -> x.all(7), Due.STATE);
    SeatStraps x = Cars.half();
    x.letOut(2);
    edges.is("nobody sits any more", x.all(7), 78);
  }

  private static void way() {
    int[] want = {1, 10, 22};
    for (int step = 0; step < 3; step++) {
      int each = step;
      edges.still("step " + step, Cars::waiting, x -> x.way(7, each), want[step]);
    }
    SeatStraps last = Due.carOf(0, 0, 0, 0, 0, 0);
    edges.is("all alike, the least child in the middle", last.way(56, 0), 31);
    edges.is("the next one in the least seat", last.way(56, 1), 40);
    edges.is("the last one where there is room", last.way(56, 2), 52);
    SeatStraps twisted = Due.carOf(0, 0, 0);
    twisted.seat(0, 0, 1);
    edges.is("a twist is the same for all", twisted.way(7, 0) * 10000 + twisted.way(7, 1) * 100 + twisted.way(7, 2), 11022);
    SeatStraps baby = Due.carOf(0, 0, 3);
    baby.seat(0, 2, 1);
    edges.is("BABY in seat 0, but not ahead of the other one", baby.way(7, 1), 12);
    edges.is("BABY at the end", baby.way(7, 2), 20);
    SeatStraps middle = Due.carOf(0, 3, 0);
    middle.seat(1, 2, 1);
    int steps = middle.way(7, 0) * 10000 + middle.way(7, 1) * 100 + middle.way(7, 2);
    edges.is("BABY first, then the least child", steps, 110022);
  }

  private static void wayBeyond() {
    edges.range("step", Cars::waiting, 0, 2, (x, v) -> x.way(7, v));
    edges.range("step, not three", Cars::waiting, 0, 2, (x, v) -> x.way(3, v));
    edges.range("step, anybody sits", Cars::busy, 0, 2, (x, v) -> x.way(7, v));
    edges.range("set", Cars::waiting, 0, 63, (x, v) -> x.way(v, 0));
    edges.refused("three, but one isn't there", () -> Due.carOf(0, 0, 0), x -> x.way(11, 0), Due.BEYOND);
  }

  private static void waySizeState() {
    int[] others = {0, 1, 3, 15, 31, 63, 62, 33};
    for (int set : others) {
      edges.refused("set " + set, Cars::waiting, x -> x.way(set, 2), Due.SIZE);
      edges.refused("set " + set + ", anybody sits", Cars::half, x -> x.way(set, 0), Due.SIZE);
    }
    edges.refused("one of them sits", Cars::half, x -> x.way(7, 0), Due.STATE);
    edges.refused("another one sits", Cars::half, x -> x.way(56, 2), Due.STATE);
  }

  private static void kind() {
    for (int mood = 0; mood <= 9; mood++) {
      SeatStraps x = Due.carOf(4);
      x.set(0, 2, mood);
      edges.is("with a mood of " + mood, x.kind(0, 0), mood < 7 ? 2 : 5);
    }
    edges.still("one that sits", Cars::busy, x -> x.kind(4, 2), 2);
    edges.still("somebody there", Cars::busy, x -> x.kind(5, 1), 5);
  }

  private static void kindBeyond() {
    edges.range("child", Cars::busy, 0, 5, (x, v) -> x.kind(v, 0));
    edges.range("seat", Cars::busy, 0, 2, (x, v) -> x.kind(0, v));
    edges.refused("nobody there", SeatStraps::new, x -> x.kind(0, 0), Due.BEYOND);
  }

  /** CHILD 0 sits, tight by 9, in a mood of its own. */
  private static SeatStraps sitting(int mood) {
    SeatStraps x = Due.carOf(0);
    x.set(0, 2, mood);
    x.click(0, 0);
    return x;
  }

  private static void bribes() {
    Supplier<SeatStraps> car = () -> sitting(0);
    edges.still("8 minutes", car, x -> x.bribes(0, 8), 0);
    edges.still("9 minutes", car, x -> x.bribes(0, 9), 1);
    edges.still("11 minutes", car, x -> x.bribes(0, 11), 1);
    edges.still("12 minutes", car, x -> x.bribes(0, 12), 2);
    edges.still("20 minutes", car, x -> x.bribes(0, 20), 2);
    edges.still("21 minutes", car, x -> x.bribes(0, 21), 3);
    edges.still("29 minutes", car, x -> x.bribes(0, 29), 3);
    edges.still("one minute", Cars::busy, x -> x.bribes(4, 1), 0);
    edges.is("9 is the best mood: 7 takes one", sitting(7).bribes(0, 29), 1);
    edges.is("9 is the best mood: 5 takes two", sitting(5).bribes(0, 29), 2);
    edges.is("9 takes none", sitting(9).bribes(0, 29), 0);
  }

  private static void bribesBeyond() {
    edges.range("child", Cars::busy, 0, 5, (x, v) -> x.bribes(v, 1));
    edges.range("n", Cars::busy, 1, 60, (x, v) -> x.bribes(1, v));
    edges.range("n, of one that sits nowhere", Cars::busy, 1, 60, (x, v) -> x.bribes(0, v));
    edges.refused("nobody there", SeatStraps::new, x -> x.bribes(0, 1), Due.BEYOND);
  }

  private static void bribesState() {
    edges.refused("it sits nowhere", Cars::busy, x -> x.bribes(0, 1), Due.STATE);
    edges.refused("it sits nowhere", Cars::waiting, x -> x.bribes(5, 60), Due.STATE);
  }

  private static void bribesNone() {
    edges.refused("30 minutes", () -> sitting(0), x -> x.bribes(0, 30), Due.NONE);
    edges.refused("60 minutes", () -> sitting(9), x -> x.bribes(0, 60), Due.NONE);
    edges.refused("of three", Cars::busy, x -> x.bribes(4, 60), Due.NONE);
  }

  private static void coat() {
    edges.still("a coat, rain 4", Cars::busy, x -> x.coat(0, 0), 1000);
    edges.still("none, rain 4", Cars::busy, x -> x.coat(5, 1), 996);
    edges.still("one that sits", Cars::busy, x -> x.coat(3, 1), 996);
    SeatStraps x = Due.carOf(0);
    edges.is("none, no rain", x.coat(0, 0), 1000);
    x.rain(9);
    edges.is("as few as can be", x.coat(0, 0), 991);
    x.set(0, 3, 1);
    x.rain(0);
    edges.is("as many as can be", x.coat(0, 2), 1004);
  }

  private static void coatBeyond() {
    edges.range("child", Cars::busy, 0, 5, (x, v) -> x.coat(v, 0));
    edges.range("seat", Cars::busy, 0, 2, (x, v) -> x.coat(0, v));
    edges.refused("nobody there", SeatStraps::new, x -> x.coat(0, 0), Due.BEYOND);
  }

  private static void mood() {
    // With a mood below 2 it goes at once; each one more than 1 lasts three minutes more.
    int[] last = {8, 8, 8, 11, 14, 17, 20, 23, 26, 29};
    for (int mood = 0; mood <= 9; mood++) {
      int n = last[mood];
      int least = mood <= 2 ? 0 : mood;
      edges.still(n + " minutes", () -> sitting(5), x -> x.mood(0, n), least);
      if (mood >= 2 && mood < 9) {
        edges.still((n + 1) + " minutes", () -> sitting(5), x -> x.mood(0, n + 1), mood + 1);
      }
    }
    edges.still("one minute", Cars::busy, x -> x.mood(4, 1), 0);
    edges.is("whatever it is now", sitting(0).mood(0, 29), 9);
  }

  private static void moodBeyond() {
    edges.range("child", Cars::busy, 0, 5, (x, v) -> x.mood(v, 1));
    edges.range("n", Cars::busy, 1, 60, (x, v) -> x.mood(1, v));
    edges.range("n, of one that sits nowhere", Cars::busy, 1, 60, (x, v) -> x.mood(0, v));
    edges.refused("nobody there", SeatStraps::new, x -> x.mood(0, 1), Due.BEYOND);
  }

  private static void moodState() {
    edges.refused("it sits nowhere", Cars::busy, x -> x.mood(0, 1), Due.STATE);
    edges.refused("it sits nowhere", Cars::waiting, x -> x.mood(5, 60), Due.STATE);
  }

  private static void moodNone() {
    edges.refused("30 minutes", () -> sitting(0), x -> x.mood(0, 30), Due.NONE);
    edges.refused("60 minutes", () -> sitting(9), x -> x.mood(0, 60), Due.NONE);
    edges.refused("of three", Cars::busy, x -> x.mood(4, 60), Due.NONE);
  }

  private static void worst() {
    edges.still("now", Cars::busy, x -> x.worst(0), 4);
    edges.still("the one alone", Cars::half, x -> x.worst(60), 2);
    edges.still("all at 0, on 60", Cars::busy, x -> x.worst(60), 1);
    SeatStraps x = Cars.busy();
    x.set(4, 2, 9);
    x.set(0, 2, 0);
    edges.is("not who sits nowhere", x.worst(0), 1);
    edges.is("on 1, HOWLER less by 2", x.worst(1), 1);
    x.set(4, 2, 4);
    edges.is("alike now: the least", x.worst(0), 1);
    edges.is("on 1", x.worst(1), 4);
    SeatStraps best = Due.carOf(0, 0);
    best.set(0, 2, 9);
    best.set(1, 2, 9);
    best.click(1, 0);
    edges.is("in the best mood", best.worst(0), 1);
    best.click(0, 2);
    edges.is("the least of two in the best mood", best.worst(0), 0);
  }

  private static void worstBeyond() {
    edges.range("n", Cars::busy, 0, 60, (x, v) -> x.worst(v));
    edges.range("n, nobody sits", Cars::waiting, 0, 60, (x, v) -> x.worst(v));
  }

  private static void worstNone() {
    edges.refused("nobody sits", Cars::waiting, x -> x.worst(0), Due.NONE);
    edges.refused("nobody there", SeatStraps::new, x -> x.worst(60), Due.NONE);
    SeatStraps x = Cars.busy();
    edges.is("they sit now, if not then", x.worst(60), 1);
    x.drive(60);
    edges.is("nobody sits then", x.worst(0), Due.NONE);
  }
}
