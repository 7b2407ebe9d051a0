/** The sentences of promises 12 to 19. */
final class ClicksEdgesTest {
  private static final Edges edges = new Edges("ClicksEdgesTest", 12, 19);

  public static void main(String[] args) {
    edges.sentence(12, "One is CLICKED IN: TIGHT.", ClicksEdgesTest::click);
    edges.sentence(12, "BEYOND.", ClicksEdgesTest::clickBeyond);
    edges.sentence(12, "STATE: it sits somewhere, or somebody there.", ClicksEdgesTest::clickState);
    edges.sentence(13, "One is let OUT: the SEAT.", ClicksEdgesTest::letOut);
    edges.sentence(13, "BEYOND.", ClicksEdgesTest::letOutBeyond);
    edges.sentence(13, "STATE: it sits nowhere.", ClicksEdgesTest::letOutState);
    edges.sentence(14, "One is BRIBED: MOOD then.", ClicksEdgesTest::bribe);
    edges.sentence(14, "BEYOND.", ClicksEdgesTest::bribeBeyond);
    edges.sentence(15, "n MINUTES go (1 to 60): those that sit then, as a set.", ClicksEdgesTest::drive);
    edges.sentence(15, "BEYOND.", ClicksEdgesTest::driveBeyond);
    edges.sentence(15, "STATE: MINUTE would be above 9999.", ClicksEdgesTest::driveState);
    edges.sentence(16, "What 0 MINUTE, 1 SPENT, 2 RAIN", ClicksEdgesTest::now);
    edges.sentence(16, "BEYOND.", ClicksEdgesTest::nowBeyond);
    edges.sentence(17, "MOOD (what 0), TIGHT (1) of one ON n MINUTES (0 to 60).", ClicksEdgesTest::on);
    edges.sentence(17, "BEYOND.", ClicksEdgesTest::onBeyond);
    edges.sentence(18, "In how many MINUTES (1 to 60) ON one that sits gets OUT.", ClicksEdgesTest::out);
    edges.sentence(18, "BEYOND.", ClicksEdgesTest::outBeyond);
    edges.sentence(18, "STATE: it sits nowhere.", ClicksEdgesTest::outState);
    edges.sentence(18, "NONE.", ClicksEdgesTest::outNone);
    edges.sentence(19, "In how many MINUTES (1 to 60) ON anybody gets OUT first.", ClicksEdgesTest::firstOut);
    edges.sentence(19, "NONE.", ClicksEdgesTest::firstOutNone);
    edges.end();
  }

  private static void click() {
    SeatStraps x = Cars.waiting();
    edges.is("the first one", x.click(1, 0), 5);
    edges.is("SPENT", x.now(1), 39);
    edges.is("the second one", x.click(3, 1), 5);
    edges.is("SPENT", x.now(1), 39 + 33);
    edges.is("the third one", x.click(4, 2), 9);
    edges.is("SPENT", x.now(1), 39 + 33 + 27);
    edges.is("each seat is worn once", x.seatOf(0, 3) * 100 + x.seatOf(1, 3) * 10 + x.seatOf(2, 3), 111);
    SeatStraps loose = Due.carOf(3);
    loose.seat(0, 0, 5);
    edges.is("not tight at all", loose.click(0, 0), 0);
    edges.is("it sits", loose.of(0, 6), 0);
  }

  private static void clickBeyond() {
    edges.range("child", Cars::waiting, 0, 5, (x, v) -> x.click(v, 0));
    edges.range("seat", Cars::waiting, 0, 2, (x, v) -> x.click(0, v));
    edges.range("child, where all are taken", Cars::busy, 0, 5, (x, v) -> x.click(v, 0));
    edges.refused("nobody there", SeatStraps::new, x -> x.click(0, 0), Due.BEYOND);
  }

  private static void clickState() {
    for (int seat = 0; seat < 3; seat++) {
      int each = seat;
      edges.refused("it sits in the middle", Cars::half, x -> x.click(2, each), Due.STATE);
      edges.refused("somebody there", Cars::busy, x -> x.click(0, each), Due.STATE);
      edges.refused("it sits, and somebody there", Cars::busy, x -> x.click(4, each), Due.STATE);
    }
    SeatStraps y = Cars.half();
    edges.is("somebody there", y.click(0, 1), Due.STATE);
    y.letOut(2);
    edges.is("nobody there any more", y.click(0, 1), 6);
    edges.is("the one that was there, elsewhere", y.click(2, 2), 7);
  }

  private static void letOut() {
    SeatStraps x = Cars.busy();
    edges.is("seat 2", x.letOut(4), 2);
    edges.is("seat 0", x.letOut(1), 0);
    edges.is("seat 1", x.letOut(3), 1);
    edges.is("nobody sits", x.now(3), 0);
    edges.is("nobody is tight", x.now(5), 0);
    edges.is("moods stay", x.of(1, 2) * 100 + x.of(3, 2) * 10 + x.of(4, 2), 470);
    edges.is("wear stays", x.count(3), 3);
    edges.is("SPENT stays", x.now(1), 99);
  }

  private static void letOutBeyond() {
    edges.range("child", Cars::busy, 0, 5, (x, v) -> x.letOut(v));
    edges.refused("nobody there", SeatStraps::new, x -> x.letOut(0), Due.BEYOND);
  }

  private static void letOutState() {
    edges.refused("it never sat", Cars::busy, x -> x.letOut(0), Due.STATE);
    edges.refused("it was let out", ClicksEdgesTest::oneLetOut, x -> x.letOut(2), Due.STATE);
    edges.refused("it got out", ClicksEdgesTest::allGotOut, x -> x.letOut(4), Due.STATE);
  }

  private static SeatStraps oneLetOut() {
    SeatStraps x = Cars.half();
    x.letOut(2);
    return x;
  }

  private static SeatStraps allGotOut() {
    SeatStraps x = Cars.busy();
    x.drive(60);
    return x;
  }

  private static void bribe() {
    for (int mood = 0; mood <= 9; mood++) {
      SeatStraps x = Due.carOf(0);
      x.set(0, 2, mood);
      edges.is("with a mood of " + mood, x.bribe(0), Math.min(9, mood + 3));
      edges.is("which stays", x.of(0, 2), Math.min(9, mood + 3));
    }
    for (int crumbs = 0; crumbs <= 9; crumbs++) {
      SeatStraps x = Cars.busy();
      x.seat(2, 1, crumbs);
      x.bribe(4);
      edges.is("crumbs from " + crumbs, x.seatOf(2, 1), Math.min(9, crumbs + 1));
      edges.is("none elsewhere", x.seatOf(0, 1) * 10 + x.seatOf(1, 1), 4);
    }
    SeatStraps y = Cars.busy();
    y.bribe(0);
    edges.is("none of one that sits nowhere", y.seatOf(0, 1) * 100 + y.seatOf(1, 1) * 10 + y.seatOf(2, 1), 40);
    SeatStraps z = Cars.busy();
    z.set(4, 2, 9);
    edges.is("the best mood", z.bribe(4), 9);
    edges.is("crumbs none the less", z.seatOf(2, 1), 1);
  }

  private static void bribeBeyond() {
    edges.range("child", Cars::busy, 0, 5, (x, v) -> x.bribe(v));
    edges.refused("nobody there", SeatStraps::new, x -> x.bribe(0), Due.BEYOND);
  }

  private static void drive() {
    // HOWLER 4 gets out in 7 minutes, ARCHER 1 in 12, BABY 3 in 18.
    int[] n = {1, 6, 7, 11, 12, 17, 18, 60};
    int[] sit = {26, 26, 10, 10, 8, 8, 0, 0};
    for (int i = 0; i < n.length; i++) {
      SeatStraps x = Cars.busy();
      edges.is(n[i] + " at once", x.drive(n[i]), sit[i]);
      edges.is("MINUTE", x.now(0), 2 + n[i]);
      SeatStraps y = Cars.busy();
      for (int j = 1; j < n[i]; j++) {
        y.drive(1);
      }
      edges.is(n[i] + " one by one", y.drive(1), sit[i]);
      edges.is("all the same", new Seen(x).differenceTo(new Seen(y)).length(), 0);
    }
    edges.is("nobody there", new SeatStraps().drive(60), 0);
  }

  private static void driveBeyond() {
    edges.range("n", Cars::busy, 1, 60, (x, v) -> x.drive(v));
    edges.range("n, in the last minute", Cars::late, 1, 60, (x, v) -> x.drive(v));
  }

  /** Nobody sits, and so many minutes have gone. */
  private static SeatStraps at(int minute) {
    SeatStraps x = new SeatStraps();
    for (int i = 0; i < minute / 60; i++) {
      x.drive(60);
    }
    if (minute % 60 > 0) {
      x.drive(minute % 60);
    }
    return x;
  }

  private static void driveState() {
    int[] tooLate = {9940, 9960, 9998, 9999};
    for (int minute : tooLate) {
      int left = 9999 - minute;
      edges.refused("one too many at " + minute, () -> at(minute), x -> x.drive(left + 1), Due.STATE);
    }
    int[] inTime = {9939, 9940, 9960, 9998};
    for (int minute : inTime) {
      SeatStraps y = at(minute);
      edges.is("just enough at " + minute, y.drive(9999 - minute), 0);
      edges.is("the last minute", y.now(0), 9999);
      edges.is("no more", y.drive(1), Due.STATE);
    }
    edges.refused("60 more", Cars::late, x -> x.drive(60), Due.STATE);
  }

  private static void now() {
    long[] busy = {2, 99, 4, 26, 5 + 4 + 5 + 7 + 0 + 7, 5 + 5 + 7};
    long[] waiting = {0, 0, 4, 0, 29, 0};
    for (int what = 0; what < 6; what++) {
      int each = what;
      edges.still("what " + what, Cars::busy, x -> x.now(each), busy[what]);
      edges.still("what " + what + ", nobody sits", Cars::waiting, x -> x.now(each), waiting[what]);
      edges.still("what " + what + ", nobody there", SeatStraps::new, x -> x.now(each), 0);
    }
  }

  private static void nowBeyond() {
    edges.range("what", Cars::busy, 0, 5, (x, v) -> x.now(v));
  }

  private static void on() {
    int[] n = {0, 1, 2, 6, 7, 59, 60};
    int[] archerMood = {4, 4, 3, 2, 2, 0, 0};
    int[] archerTight = {5, 5, 5, 5, 5, 0, 0};
    int[] howlerTight = {7, 6, 5, 1, 0, 0, 0};
    for (int i = 0; i < n.length; i++) {
      int each = n[i];
      edges.still("ARCHER's mood on " + each, Cars::busy, x -> x.on(1, each, 0), archerMood[i]);
      edges.still("ARCHER on " + each, Cars::busy, x -> x.on(1, each, 1), archerTight[i]);
      edges.still("HOWLER's mood on " + each, Cars::busy, x -> x.on(4, each, 0), 0);
      edges.still("HOWLER on " + each, Cars::busy, x -> x.on(4, each, 1), howlerTight[i]);
      edges.still("one that sits nowhere, on " + each, Cars::busy, x -> x.on(5, each, 0), 7);
      edges.still("one that sits nowhere, on " + each, Cars::busy, x -> x.on(5, each, 1), 0);
    }
  }

  private static void onBeyond() {
    edges.range("child", Cars::busy, 0, 5, (x, v) -> x.on(v, 1, 0));
    edges.range("n", Cars::busy, 0, 60, (x, v) -> x.on(1, v, 0));
    edges.range("what", Cars::busy, 0, 1, (x, v) -> x.on(1, 1, v));
    edges.refused("nobody there", SeatStraps::new, x -> x.on(0, 0, 0), Due.BEYOND);
  }

  private static void out() {
    edges.still("ARCHER", Cars::busy, x -> x.out(1), 12);
    edges.still("BABY", Cars::busy, x -> x.out(3), 18);
    edges.still("HOWLER", Cars::busy, x -> x.out(4), 7);
    edges.is("at once", sitting(0, 1, 5, true, 0).out(0), 1);
    edges.is("a minute more", sitting(0, 1, 4, true, 0).out(0), 2);
    edges.is("in no mood, not tight at all", sitting(5, 0, 5, true, 0).out(0), 1);
    edges.is("as late as can be", sitting(0, 9, 0, false, 1).out(0), 32);
  }

  /** One sits alone in seat 0, so many minutes having gone before. */
  private static SeatStraps sitting(int kind, int mood, int twists, boolean coat, int minute) {
    SeatStraps x = Due.carOf(kind);
    if (minute > 0) {
      x.drive(minute);
    }
    x.set(0, 2, mood);
    x.set(0, 3, coat ? 1 : 0);
    x.seat(0, 0, twists);
    x.click(0, 0);
    return x;
  }

  private static void outBeyond() {
    edges.range("child", Cars::busy, 0, 5, (x, v) -> x.out(v));
    edges.refused("nobody there", SeatStraps::new, x -> x.out(0), Due.BEYOND);
  }

  private static void outState() {
    edges.refused("it never sat", Cars::busy, x -> x.out(0), Due.STATE);
    edges.refused("it was let out", ClicksEdgesTest::oneLetOut, x -> x.out(2), Due.STATE);
    edges.refused("it got out", ClicksEdgesTest::allGotOut, x -> x.out(4), Due.STATE);
  }

  /** Whoever sits gets out in 32 minutes at the latest, so that NONE is never told. */
  private static void outNone() {
    int latest = 0;
    for (int kind = 0; kind < 6; kind++) {
      for (int mood = 0; mood <= 9; mood++) {
        for (int twists = 0; twists <= 5; twists++) {
          for (int minute = 0; minute < 3; minute++) {
            int out = sitting(kind, mood, twists, false, minute).out(0);
            edges.is("it gets out", out >= 1 && out <= 32 ? 1 : 0, 1);
            latest = Math.max(latest, out);
          }
        }
      }
    }
    edges.is("the latest", latest, 32);
  }

  private static void firstOut() {
    edges.still("HOWLER", Cars::busy, x -> x.firstOut(), 7);
    SeatStraps x = Cars.busy();
    x.letOut(4);
    edges.is("ARCHER", x.firstOut(), 12);
    edges.is("at once", sitting(0, 1, 5, true, 0).firstOut(), 1);
    edges.is("as late as can be", sitting(0, 9, 0, false, 1).firstOut(), 32);
    SeatStraps two = Due.carOf(0, 0);
    two.click(0, 2);
    two.click(1, 0);
    edges.is("two at once", two.firstOut(), 18);
  }

  private static void firstOutNone() {
    edges.refused("nobody sits", Cars::waiting, x -> x.firstOut(), Due.NONE);
    edges.refused("nobody sits any more", ClicksEdgesTest::allGotOut, x -> x.firstOut(), Due.NONE);
    edges.refused("nobody there", SeatStraps::new, x -> x.firstOut(), Due.NONE);
  }
}
