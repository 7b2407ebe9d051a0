/** The sentences of "Terms" that tell what a click, a minute and a bribe do. */
final class MinuteTerms {
  private static final int TERMS = Document.TERMS;
  private final Edges edges;

  MinuteTerms(Edges edges) {
    this.edges = edges;
  }

  void test() {
    edges.sentence(TERMS, "To CLICK one IN: into a SEAT where nobody sits, one that sits nowhere", this::clickIn);
    edges.sentence(TERMS, "OUT: TIGHT is 0.", this::out);
    edges.sentence(TERMS, "A MINUTE of driving: by SEATS: MOOD of who sits there", this::moodGoes);
    edges.sentence(TERMS, "Then, by SEATS: if MOOD of who sits there is below 2", this::loosens);
    edges.sentence(TERMS, "MINUTE is 1 more.", this::minuteIsMore);
    edges.sentence(TERMS, "To BRIBE one: MOOD is 3 more (9 at most)", this::bribe);
  }

  private void clickIn() {
    for (int kind = 0; kind < 6; kind++) {
      for (int arch = 7; arch <= 9; arch++) {
        SeatStraps x = Due.carOf(kind);
        x.set(0, 4, arch);
        int seconds = x.seconds(0, 2);
        int snug = x.snug(0, 2);
        edges.is("TIGHT by ARCH as it was", x.click(0, 2), snug);
        edges.is("SPENT by ARCH as it was", x.now(1), seconds);
        edges.is("WEAR", x.seatOf(2, 3), 1);
        edges.is("no WEAR elsewhere", x.count(3), 1);
        boolean arches = kind == 1 || kind == 4;
        edges.is("ARCH of kind " + kind + " from " + arch, x.of(0, 4), arches ? Math.min(9, arch + 1) : arch);
      }
    }
    edges.refused("one that sits", Cars::busy, x -> x.click(1, 0), Due.STATE);
    edges.refused("where one sits", Cars::half, x -> x.click(1, 1), Due.STATE);
    SeatStraps x = Due.carOf(1, 0);
    x.click(1, 1);
    edges.is("who sits is in the way", x.now(1), 10);
    x.click(0, 0);
    edges.is("who sits is in the way", x.now(1), 10 + 13);
  }

  private void out() {
    SeatStraps x = Due.carOf(0, 1);
    x.click(0, 0);
    x.click(1, 1);
    x.letOut(0);
    edges.is("let out", x.of(0, 5), 0);
    edges.is("nowhere", x.of(0, 6), -1);
    edges.is("nobody there", x.seatOf(0, 4), -1);
    edges.is("the other one", x.now(5), 9);
    x.drive(60);
    edges.is("got out", x.of(1, 5), 0);
    edges.is("nowhere", x.of(1, 6), -1);
    edges.is("nobody there", x.seatOf(1, 4), -1);
    edges.is("ARCH stays", x.of(1, 4), 1);
  }

  private void moodGoes() {
    for (int mood = 0; mood <= 9; mood++) {
      SeatStraps x = Due.carOf(4, 0, 3, 0);
      for (int child = 0; child < 4; child++) {
        x.set(child, 2, mood);
      }
      x.click(0, 0);
      x.click(1, 1);
      x.click(2, 2);
      x.drive(1);
      edges.is("HOWLER: 4 less, 0 at least", x.of(0, 2), Math.max(0, mood - 4));
      edges.is("CHILD: 1 less, 0 at least", x.of(1, 2), Math.max(0, mood - 1));
      edges.is("BABY: 1 less, 0 at least", x.of(2, 2), Math.max(0, mood - 1));
      edges.is("who sits nowhere", x.of(3, 2), mood);
    }
    // One that gets out in a minute is still company in it, whichever side it sits on.
    for (int seat = 0; seat < 3; seat++) {
      SeatStraps x = Due.carOf(3, 0);
      x.drive(1);
      int beside = seat == 1 ? 0 : 1;
      x.seat(beside, 0, 5);
      x.set(1, 2, 1);
      x.set(1, 3, 1);
      x.click(0, seat);
      edges.is("nearly out", x.click(1, beside), 1);
      edges.is("out", x.drive(1), 1);
      edges.is("it had company", x.of(0, 2), 5);
      x.drive(1);
      edges.is("and has none then", x.of(0, 2), 4);
    }
    // ARCHER's straps loosen behind its fretting, not ahead of it.
    SeatStraps tight = Due.carOf(1);
    tight.drive(1);
    tight.seat(0, 0, 2);
    tight.set(0, 2, 2);
    edges.is("tight by 7", tight.click(0, 0), 7);
    tight.drive(1);
    edges.is("it fretted by 7", tight.of(0, 2), 1);
    edges.is("tight by 6 then", tight.of(0, 5), 6);
    tight.drive(1);
    edges.is("and frets no more", tight.of(0, 2), 1);
    edges.is("tight by 5 then", tight.of(0, 5), 5);
  }

  private void loosens() {
    for (int mood = 0; mood <= 9; mood++) {
      SeatStraps x = Due.carOf(0);
      x.drive(1);
      x.click(0, 0);
      x.set(0, 2, mood);
      x.drive(1);
      edges.is("with a mood of " + mood, x.of(0, 5), mood < 2 ? 8 : 9);
    }
    SeatStraps first = Due.carOf(0);
    first.set(0, 2, 2);
    first.click(0, 0);
    first.drive(1);
    edges.is("by the mood that is left", first.of(0, 5), 8);
    int[] moods = {0, 1, 2};
    int[] sit = {0, 0, 1};
    for (int i = 0; i < 3; i++) {
      SeatStraps one = hardlyTight(0, 1);
      one.set(0, 2, moods[i]);
      edges.is("tight by 1, mood " + moods[i], one.drive(1), sit[i]);
      edges.is("TIGHT", one.of(0, 5), sit[i]);
      SeatStraps none = hardlyTight(3, 0);
      none.set(0, 2, moods[i] + (moods[i] == 2 ? 1 : 0));
      edges.is("tight by 0, mood " + moods[i], none.drive(1), sit[i]);
      edges.is("TIGHT", none.of(0, 5), 0);
    }
    SeatStraps all = Due.carOf(0, 0, 0);
    for (int child = 0; child < 3; child++) {
      all.set(child, 2, 0);
      all.click(child, 2 - child);
    }
    edges.is("all hold on", all.drive(8), 7);
    edges.is("all by 1", all.now(5), 3);
    edges.is("all get out at once", all.drive(1), 0);
  }

  /** One sits in seat 0, in minute 1, so tight. */
  private SeatStraps hardlyTight(int kind, int tight) {
    SeatStraps x = Due.carOf(kind);
    x.drive(1);
    x.seat(0, 0, 5);
    x.set(0, 3, 1);
    edges.is("clicked in", x.click(0, 0), tight);
    return x;
  }

  private void minuteIsMore() {
    SeatStraps x = Cars.busy();
    for (int i = 3; i <= 63; i++) {
      x.drive(1);
      edges.is("MINUTE", x.now(0), i);
    }
    SeatStraps y = new SeatStraps();
    y.drive(60);
    edges.is("also with nobody there", y.now(0), 60);
  }

  private void bribe() {
    for (int mood = 0; mood <= 9; mood++) {
      for (int crumbs = 7; crumbs <= 9; crumbs++) {
        SeatStraps x = Due.carOf(0, 0);
        x.click(0, 1);
        x.set(0, 2, mood);
        x.set(1, 2, mood);
        x.seat(1, 1, crumbs);
        edges.is("mood " + mood, x.bribe(0), Math.min(9, mood + 3));
        edges.is("crumbs " + crumbs, x.seatOf(1, 1), Math.min(9, crumbs + 1));
        edges.is("one that sits nowhere", x.bribe(1), Math.min(9, mood + 3));
        edges.is("no more crumbs", x.seatOf(0, 1) * 100 + x.seatOf(1, 1) * 10 + x.seatOf(2, 1), 10 * Math.min(9, crumbs + 1));
      }
    }
  }
}
