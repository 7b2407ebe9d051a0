/** Promises 38 to 42. */
final class ImagesTest {
  private static final Due due = new Due("ImagesTest");

  public static void main(String[] args) {
    imageAndUndo();
    whatIsNotKept();
    newOnesBehindUndo();
    tear();
    count();
    status();
    due.end();
  }

  private static void imageAndUndo() {
    SeatStraps x = Due.carOf(1, 3);
    x.seat(0, 0, 2);
    x.seat(1, 1, 3);
    x.seat(2, 2, 1);
    x.rain(4);
    x.set(0, 1, 70);
    x.set(0, 3, 1);
    x.click(0, 0);
    x.click(1, 1);
    x.drive(2);
    due.is("38: image", x.image(), 1);
    long[] before = all(x, 2);
    change(x);
    due.is("39: how many children", x.undo(), 2);
    same("39: undone", all(x, 2), before);
    change(x);
    due.is("39: it stays", x.undo(), 2);
    same("39: undone again", all(x, 2), before);
    x.child(5);
    due.is("38: a later image", x.image(), 1);
    x.child(5);
    due.is("39: the latest", x.undo(), 3);
    due.is("39: the latest stays", x.undo(), 3);
  }

  private static void change(SeatStraps x) {
    x.child(0);
    x.letOut(0);
    x.seat(0, 0, 5);
    x.seat(1, 1, 9);
    x.seat(2, 2, 0);
    x.rain(9);
    x.set(0, 1, 3);
    x.set(0, 2, 0);
    x.set(0, 3, 0);
    x.set(0, 4, 9);
    x.turn(1, 5);
    x.click(2, 0);
    x.bribe(1);
    x.drive(30);
  }

  /** All that there is to be seen, of a car of so many children. */
  private static long[] all(SeatStraps x, int children) {
    long[] seen = new long[3 * 5 + children * 8 + 6 + 4];
    int i = 0;
    for (int seat = 0; seat < 3; seat++) {
      for (int what = 0; what < 5; what++) {
        seen[i++] = x.seatOf(seat, what);
      }
    }
    for (int child = 0; child < children; child++) {
      for (int what = 0; what < 8; what++) {
        seen[i++] = x.of(child, what);
      }
    }
    for (int what = 0; what < 6; what++) {
      seen[i++] = x.now(what);
    }
    for (int what = 0; what < 4; what++) {
      seen[i++] = x.count(what);
    }
    return seen;
  }

  private static void same(String call, long[] got, long[] want) {
    for (int i = 0; i < want.length; i++) {
      due.is(call + ", " + i, got[i], want[i]);
    }
  }

  private static void whatIsNotKept() {
    SeatStraps x = Due.carOf(0);
    x.sheet(0, 8, 2);
    Due.feed(x, "rain");
    x.image();
    x.write(0, 1, 7);
    x.sheet(1, 8, 3);
    Due.feed(x, " 1");
    x.child(9);
    due.is("39: undo", x.undo(), 1);
    due.is("39: sheets stay", x.write(0, 1, 0), 7);
    due.is("39: sheets stay", x.lays(1), 1);
    due.is("39: the tape stays", x.count(1), 6);
    due.is("39: the tape stays", x.car(), 1);
    due.is("39: status stays", x.status(0), 1);
  }

  /** Nothing is left of those that undo() took away. */
  private static void newOnesBehindUndo() {
    SeatStraps x = Due.carOf(2);
    x.image();
    x.child(4);
    x.set(1, 1, 80);
    x.set(1, 2, 9);
    x.set(1, 3, 1);
    x.set(1, 4, 6);
    x.click(1, 1);
    x.undo();
    due.is("39: moods of those that are left", x.now(4), 5);
    due.is("39: nobody is tight", x.now(5), 0);
    due.is("39: a new one", x.child(3), 1);
    int[] atFirst = {3, 30, 5, 0, 0, 0, -1};
    for (int what = 0; what < 7; what++) {
      due.is("39: as at first, what " + what, x.of(1, what), atFirst[what]);
    }
  }

  private static void tear() {
    SeatStraps x = Due.carOf(0);
    due.is("39: nothing is kept", x.undo(), Due.NONE);
    due.is("40: nothing was", x.tear(), 0);
    x.image();
    x.image();
    due.is("40: something was", x.tear(), 1);
    due.is("40: nothing then", x.tear(), 0);
    x.child(0);
    due.is("39: nothing is kept", x.undo(), Due.NONE);
    due.is("39: nothing changed", x.count(0), 2);
    x.image();
    due.is("39: kept again", x.undo(), 2);
    SeatStraps y = new SeatStraps();
    y.image();
    y.child(0);
    due.is("39: nobody there", y.undo(), 0);
    due.is("39: nobody there", y.of(0, 0), Due.BEYOND);
  }

  private static void count() {
    SeatStraps x = Due.carOf(0, 0, 0);
    x.click(1, 0);
    x.click(2, 2);
    x.letOut(2);
    x.click(2, 1);
    x.feed(0, 3);
    due.is("41: CHILDREN", x.count(0), 3);
    due.is("41: bytes", x.count(1), 3);
    due.is("41: those that sit", x.count(2), 2);
    due.is("41: WEAR", x.count(3), 3);
    due.is("41: what 4", x.count(4), Due.BEYOND);
    due.is("41: what -1", x.count(-1), Due.BEYOND);
    due.is("41: extremes", x.count(Due.MIN), Due.BEYOND);
    due.is("41: extremes", x.count(Due.MAX), Due.BEYOND);
  }

  private static void status() {
    SeatStraps x = Due.carOf(0, 0, 0, 0, 0, 0);
    x.rain(-1);
    x.child(0);
    x.child(0);
    x.as(0, 1);
    x.firstOut();
    x.undo();
    x.letOut(0);
    x.lays(0);
    x.write(0, 0, 0);
    x.lays(0);
    x.all(0);
    int[] want = {1, 2, 1, 2, 1, 3, 1};
    for (int which = 0; which < 7; which++) {
      due.is("42: status(" + which + ")", x.status(which), want[which]);
    }
    due.is("42: all", x.status(-1), 11);
    due.is("42: another one", x.status(7), Due.BEYOND);
    due.is("42: is counted", x.status(0), 2);
    due.is("42: another one", x.status(-2), Due.BEYOND);
    due.is("42: is counted", x.status(-1), 13);
    due.is("42: extremes", x.status(Due.MIN), Due.BEYOND);
    due.is("42: extremes", x.status(Due.MAX), Due.BEYOND);
    due.is("42: all", x.status(-1), 15);
  }
}
