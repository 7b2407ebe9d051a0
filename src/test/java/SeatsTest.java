/** Promises 1 to 4. */
final class SeatsTest {
  private static final Due due = new Due("SeatsTest");

  public static void main(String[] args) {
    newObject();
    seat();
    seatOf();
    rain();
    due.end();
  }

  private static void newObject() {
    SeatStraps x = new SeatStraps();
    for (int what = 0; what <= 5; what++) {
      due.is("1: now(" + what + ")", x.now(what), 0);
    }
    for (int what = 0; what <= 3; what++) {
      due.is("1: count(" + what + ")", x.count(what), 0);
    }
    for (int seat = 0; seat < 3; seat++) {
      for (int what = 0; what <= 4; what++) {
        due.is("1: seatOf(" + seat + ", " + what + ")", x.seatOf(seat, what), what == 4 ? -1 : 0);
      }
    }
    for (int which = -1; which <= 6; which++) {
      due.is("1: status(" + which + ")", x.status(which), 0);
    }
    due.is("1: wipe()", x.wipe(), 0);
    due.is("1: tear()", x.tear(), 0);
    due.is("1: undo()", x.undo(), Due.NONE);
    for (int s = 0; s < 4; s++) {
      due.is("1: lays(" + s + ")", x.lays(s), Due.MISSING);
    }
    due.is("1: of(0, 0)", x.of(0, 0), Due.BEYOND);
    due.is("1: another object's status", new SeatStraps().status(-1), 0);
  }

  private static void seat() {
    SeatStraps x = new SeatStraps();
    int[] most = {5, 9, 1};
    for (int seat = 0; seat < 3; seat++) {
      for (int what = 0; what < 3; what++) {
        due.is("2: to the most", x.seat(seat, what, most[what]), 0);
        due.is("2: above the most", x.seat(seat, what, most[what] + 1), Due.BEYOND);
        due.is("2: below 0", x.seat(seat, what, -1), Due.BEYOND);
        due.is("2: extremes", x.seat(seat, what, Due.MAX), Due.BEYOND);
        due.is("2: extremes", x.seat(seat, what, Due.MIN), Due.BEYOND);
        due.is("2: a finding changes nothing", x.seatOf(seat, what), most[what]);
        due.is("2: to 1", x.seat(seat, what, 1), most[what]);
        due.is("2: to 0", x.seat(seat, what, 0), 1);
      }
    }
    due.is("2: WEAR can't be put", x.seat(0, 3, 0), Due.BEYOND);
    due.is("2: what -1", x.seat(0, -1, 0), Due.BEYOND);
    due.is("2: seat -1", x.seat(-1, 0, 0), Due.BEYOND);
    due.is("2: seat 3", x.seat(3, 0, 0), Due.BEYOND);
    due.is("2: seat MIN", x.seat(Due.MIN, Due.MIN, Due.MIN), Due.BEYOND);
    due.is("2: seats are apart", x.seat(1, 0, 4), 0);
    due.is("2: seats are apart", x.seatOf(0, 0) + x.seatOf(2, 0), 0);
  }

  private static void seatOf() {
    SeatStraps x = Due.carOf(0, 0);
    x.seat(2, 0, 3);
    x.seat(2, 1, 8);
    x.seat(2, 2, 1);
    x.click(1, 2);
    due.is("3: TWISTS", x.seatOf(2, 0), 3);
    due.is("3: CRUMBS", x.seatOf(2, 1), 8);
    due.is("3: TURNED", x.seatOf(2, 2), 1);
    due.is("3: WEAR", x.seatOf(2, 3), 1);
    due.is("3: who sits", x.seatOf(2, 4), 1);
    x.letOut(1);
    x.click(0, 2);
    due.is("3: WEAR grows", x.seatOf(2, 3), 2);
    due.is("3: who sits", x.seatOf(2, 4), 0);
    x.letOut(0);
    due.is("3: nobody", x.seatOf(2, 4), -1);
    due.is("3: nobody ever", x.seatOf(1, 4), -1);
    due.is("3: what 5", x.seatOf(2, 5), Due.BEYOND);
    due.is("3: what -1", x.seatOf(2, -1), Due.BEYOND);
    due.is("3: seat 3", x.seatOf(3, 0), Due.BEYOND);
    due.is("3: seat -1", x.seatOf(-1, 0), Due.BEYOND);
    due.is("3: extremes", x.seatOf(Due.MAX, Due.MIN), Due.BEYOND);
  }

  private static void rain() {
    SeatStraps x = new SeatStraps();
    due.is("4: to 9", x.rain(9), 0);
    due.is("4: above 9", x.rain(10), Due.BEYOND);
    due.is("4: below 0", x.rain(-1), Due.BEYOND);
    due.is("4: extremes", x.rain(Due.MIN), Due.BEYOND);
    due.is("4: extremes", x.rain(Due.MAX), Due.BEYOND);
    due.is("4: to 0", x.rain(0), 9);
    due.is("4: to 3", x.rain(3), 0);
    due.is("4: it rains", x.now(2), 3);
  }
}
