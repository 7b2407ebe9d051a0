/** The sentences of "Terms" that tell what kinds take, how snug they are and how much they fret. */
final class KindTerms {
  private static final int TERMS = Document.TERMS;
  private final Edges edges;

  KindTerms(Edges edges) {
    this.edges = edges;
  }

  void test() {
    edges.sentence(TERMS, "TAKES (seconds, but for the SEAT's): CHILD: 10.", () -> takes(0, 10, 10, 10));
    edges.sentence(TERMS, "ARCHER: as CHILD, and 3 for each of ARCH.", this::archerTakes);
    edges.sentence(TERMS, "BIG: half of as CHILD.", () -> takes(2, 5, 5, 5));
    edges.sentence(TERMS, "BABY: as CHILD, and 5, if the SEAT isn't TURNED.", () -> takes(3, 15, 15, 10));
    edges.sentence(TERMS, "HOWLER: as ARCHER, twice if its MOOD is below 3.", this::howlerTakes);
    edges.sentence(TERMS, "SELF: as BIG, but 0 with a MOOD of 7 or more.", this::selfTakes);
    edges.sentence(TERMS, "SECONDS (to click one in a SEAT, by all as it is)", this::seconds);
    edges.sentence(TERMS, "SNUG (how TIGHT one is, clicked in a SEAT): CHILD: 9 less TWISTS.", this::childSnug);
    edges.sentence(TERMS, "ARCHER: as CHILD, less half of ARCH.", () -> archedSnug(1));
    edges.sentence(TERMS, "BIG: as CHILD, less a 40th of SIZE.", () -> sizedSnug(2, 9));
    edges.sentence(TERMS, "BABY: as CHILD, less 4, if the SEAT isn't TURNED.", this::babySnug);
    edges.sentence(TERMS, "HOWLER: as ARCHER.", () -> archedSnug(4));
    edges.sentence(TERMS, "SELF: as BIG, less 1.", () -> sizedSnug(5, 8));
    edges.sentence(TERMS, "(Of all 3 less with a COAT; 0 at least in the end.", this::snugInTheEnd);
    edges.sentence(TERMS, "Others as the KIND above.)", this::others);
    edges.sentence(TERMS, "FRETS (how much MOOD goes in a MINUTE m): CHILD: 1", () -> fretsByMinute(0));
    edges.sentence(TERMS, "ARCHER: as CHILD, and 1, if it is TIGHT by more than 6.", () -> fretsByTight(1, 1));
    edges.sentence(TERMS, "BIG: as CHILD.", () -> fretsByMinute(2));
    edges.sentence(TERMS, "BABY: as CHILD, and 1, if nobody sits BESIDE it.", this::babyFrets);
    edges.sentence(TERMS, "HOWLER: twice as ARCHER.", () -> fretsByTight(4, 2));
    edges.sentence(TERMS, "SELF: as BIG.", () -> fretsByMinute(5));
  }

  /** Of one with a mood of 5: in a seat, as arched and big as can be, and in a turned seat. */
  private void takes(int kind, int plain, int most, int turned) {
    SeatStraps x = Due.carOf(kind);
    edges.is("plain", x.seconds(0, 0), plain);
    x.set(0, 4, 9);
    x.set(0, 1, 99);
    edges.is("arched and big", x.seconds(0, 0), most);
    x.seat(0, 2, 1);
    edges.is("turned", x.seconds(0, 0), turned);
    x.set(0, 2, 0);
    edges.is("in no mood", x.seconds(0, 0), turned);
    x.set(0, 2, 9);
    edges.is("in the best one", x.seconds(0, 0), turned);
  }

  private void archerTakes() {
    for (int arch = 0; arch <= 9; arch++) {
      SeatStraps x = Due.carOf(1);
      x.set(0, 4, arch);
      for (int mood = 0; mood <= 9; mood += 3) {
        x.set(0, 2, mood);
        edges.is("arch " + arch, x.seconds(0, 0), 10 + 3 * arch);
      }
    }
  }

  private void howlerTakes() {
    for (int arch = 0; arch <= 9; arch++) {
      SeatStraps x = Due.carOf(4);
      x.set(0, 4, arch);
      for (int mood = 0; mood <= 9; mood++) {
        x.set(0, 2, mood);
        edges.is("arch " + arch + ", mood " + mood, x.seconds(0, 0), (10 + 3 * arch) * (mood < 3 ? 2 : 1));
      }
    }
    SeatStraps y = Due.carOf(4);
    y.set(0, 2, 2);
    y.rain(9);
    y.seat(0, 0, 5);
    edges.is("twice what it takes, not what the seat does", y.seconds(0, 0), 20 + 9 + 25);
  }

  private void selfTakes() {
    for (int mood = 0; mood <= 9; mood++) {
      SeatStraps x = Due.carOf(5);
      x.set(0, 2, mood);
      edges.is("mood " + mood, x.seconds(0, 0), mood < 7 ? 5 : 0);
      x.seat(0, 1, 9);
      edges.is("crumbs none the less, mood " + mood, x.seconds(0, 0), mood < 7 ? 23 : 18);
    }
  }

  private void seconds() {
    SeatStraps x = Due.carOf(4, 0, 0);
    x.set(0, 2, 2);
    x.set(0, 4, 9);
    edges.is("TAKES", x.seconds(0, 1), 74);
    x.seat(1, 0, 5);
    edges.is("TWISTS", x.seconds(0, 1), 74 + 25);
    x.seat(1, 1, 9);
    edges.is("CRUMBS", x.seconds(0, 1), 74 + 25 + 18);
    x.set(0, 3, 1);
    edges.is("COAT", x.seconds(0, 1), 74 + 25 + 18 + 4);
    x.rain(9);
    edges.is("RAIN", x.seconds(0, 1), 74 + 25 + 18 + 4 + 9);
    x.click(1, 0);
    edges.is("one beside", x.seconds(0, 1), 130 + 8);
    edges.is("none in the middle", x.seconds(0, 2), 74 + 4 + 9);
    x.click(2, 2);
    edges.is("two beside: the most", x.seconds(0, 1), 130 + 16);
    x.letOut(1);
    edges.is("the other one beside", x.seconds(0, 1), 130 + 8);
    x.letOut(2);
    x.click(1, 1);
    edges.is("one in the middle, seat 0", x.seconds(0, 0), 74 + 4 + 9 + 3);
    edges.is("one in the middle, seat 2", x.seconds(0, 2), 74 + 4 + 9 + 3);
    edges.is("one in the middle, there", x.seconds(0, 1), 130);
    SeatStraps self = Due.carOf(5);
    self.set(0, 2, 7);
    edges.is("as few as can be", self.seconds(0, 1), 0);
  }

  private void childSnug() {
    SeatStraps x = Due.carOf(0);
    x.set(0, 4, 9);
    x.set(0, 1, 99);
    for (int twists = 0; twists <= 5; twists++) {
      x.seat(0, 0, twists);
      edges.is("twists " + twists, x.snug(0, 0), 9 - twists);
      edges.is("elsewhere", x.snug(0, 1), 9);
    }
  }

  private void archedSnug(int kind) {
    SeatStraps x = Due.carOf(kind);
    x.set(0, 1, 99);
    for (int arch = 0; arch <= 9; arch++) {
      x.set(0, 4, arch);
      edges.is("arch " + arch, x.snug(0, 0), 9 - arch / 2);
    }
    x.seat(0, 0, 5);
    edges.is("as loose as can be", x.snug(0, 0), 0);
    x.set(0, 4, 7);
    edges.is("nearly", x.snug(0, 0), 1);
  }

  private void sizedSnug(int kind, int most) {
    int[] sizes = {0, 30, 39, 40, 79, 80, 99};
    int[] less = {0, 0, 0, 1, 1, 2, 2};
    SeatStraps x = Due.carOf(kind);
    x.set(0, 4, 9);
    for (int i = 0; i < sizes.length; i++) {
      x.set(0, 1, sizes[i]);
      edges.is("size " + sizes[i], x.snug(0, 0), most - less[i]);
    }
  }

  private void babySnug() {
    SeatStraps x = Due.carOf(3);
    x.seat(1, 2, 1);
    x.seat(2, 0, 5);
    edges.is("not turned", x.snug(0, 0), 5);
    edges.is("turned", x.snug(0, 1), 9);
    edges.is("not turned, twisted", x.snug(0, 2), 0);
    x.seat(2, 2, 1);
    edges.is("turned, twisted", x.snug(0, 2), 4);
  }

  private void snugInTheEnd() {
    int[] plain = {9, 9, 9, 5, 9, 8};
    int[] worst = {1, 0, 0, 0, 0, 0};
    for (int kind = 0; kind < 6; kind++) {
      SeatStraps x = Due.carOf(kind);
      x.set(0, 3, 1);
      edges.is("a coat, kind " + kind, x.snug(0, 0), plain[kind] - 3);
      x.set(0, 4, 9);
      x.set(0, 1, 99);
      x.seat(0, 0, 5);
      edges.is("0 at least, kind " + kind, x.snug(0, 0), worst[kind]);
      edges.is("0 at least, clicked in", x.click(0, 0), worst[kind]);
    }
    SeatStraps y = Due.carOf(2);
    y.set(0, 3, 1);
    y.seat(0, 0, 5);
    edges.is("1", y.snug(0, 0), 1);
    y.set(0, 1, 40);
    edges.is("just 0", y.snug(0, 0), 0);
    y.set(0, 1, 80);
    edges.is("not below", y.snug(0, 0), 0);
  }

  private void others() {
    SeatStraps x = Due.carOf(1, 4, 2, 5);
    for (int child = 0; child < 4; child++) {
      x.set(child, 4, 8);
      x.set(child, 1, 99);
    }
    edges.is("HOWLER as ARCHER", x.snug(1, 0), x.snug(0, 0));
    edges.is("HOWLER as ARCHER, with a mood of 5", x.seconds(1, 0), x.seconds(0, 0));
    edges.is("SELF as BIG, with a mood of 5", x.seconds(3, 0), x.seconds(2, 0));
    edges.is("SELF as BIG", x.of(3, 7), x.of(2, 7));
  }

  private void fretsByMinute(int kind) {
    SeatStraps x = Due.carOf(kind);
    x.click(0, 0);
    for (int m = 0; m < 7; m++) {
      x.set(0, 2, 9);
      edges.is("in minute " + m, x.of(0, 7), m % 3 == 0 ? 1 : 0);
      x.drive(1);
      edges.is("mood behind minute " + m, x.of(0, 2), m % 3 == 0 ? 8 : 9);
    }
    SeatStraps late = Cars.late();
    late.turn(0, kind);
    edges.is("in the last minute", late.of(0, 7), 1);
  }

  private void fretsByTight(int kind, int times) {
    for (int twists = 0; twists <= 5; twists++) {
      SeatStraps x = Due.carOf(kind);
      x.seat(0, 0, twists);
      int tight = x.click(0, 0);
      edges.is("as tight", tight, 9 - twists);
      for (int m = 0; m < 4; m++) {
        x.set(0, 2, 9);
        int due = times * ((m % 3 == 0 ? 1 : 0) + (tight > 6 ? 1 : 0));
        edges.is("in minute " + m + ", tight by " + tight, x.of(0, 7), due);
        x.drive(1);
        edges.is("mood behind it", x.of(0, 2), 9 - due);
      }
    }
  }

  private void babyFrets() {
    for (int others = 0; others < 8; others++) {
      for (int seat = 0; seat < 3; seat++) {
        SeatStraps x = Due.carOf(3, 0, 0, 0);
        x.click(0, seat);
        for (int s = 0; s < 3; s++) {
          if (s != seat && (others & (1 << s)) != 0) {
            x.click(1 + s, s);
          }
        }
        boolean left = seat > 0 && x.seatOf(seat - 1, 4) >= 0;
        boolean right = seat < 2 && x.seatOf(seat + 1, 4) >= 0;
        int alone = left || right ? 0 : 1;
        edges.is("minute 0, seat " + seat + ", others " + others, x.of(0, 7), 1 + alone);
        x.drive(1);
        edges.is("mood behind it", x.of(0, 2), 4 - alone);
        edges.is("minute 1", x.of(0, 7), alone);
      }
    }
  }
}
