/** Promises 29 to 31. */
final class TextTest {
  private static final Due due = new Due("TextTest");

  public static void main(String[] args) {
    feed();
    wipe();
    children();
    seats();
    manyItems();
    faults();
    faultsOfNumbers();
    faultOfASeventh();
    faultChangesNothing();
    due.end();
  }

  private static void feed() {
    SeatStraps x = new SeatStraps();
    due.is("29: n 0", x.feed(0, 0), Due.BEYOND);
    due.is("29: n 5", x.feed(0, 5), Due.BEYOND);
    due.is("29: n -1", x.feed(0, -1), Due.BEYOND);
    due.is("29: n MIN", x.feed(0, Due.MIN), Due.BEYOND);
    due.is("29: 4 bytes, the highest first", x.feed(0x7261696e, 4), 4);
    due.is("29: the 2 lowest bytes", x.feed(0x41422037, 2), 6);
    due.is("29: it is rain 7", x.car(), 1);
    due.is("29: it is rain 7", x.now(2), 7);
    due.is("29: 3 bytes", x.feed(0xff726169, 3), 3);
    due.is("29: 1 byte", x.feed(0xffffff6e, 1), 4);
    due.is("29: 2 bytes", x.feed(0x2035, 2), 6);
    due.is("29: it is rain 5", x.car(), 1);
    due.is("29: it is rain 5", x.now(2), 5);
    for (int i = 1; i <= 29; i++) {
      due.is("29: more", x.feed(0x20202020, 4), 4 * i);
    }
    x.feed(0x20, 1);
    due.is("29: 117 and 4", x.feed(0x20202020, 4), Due.FULL);
    due.is("29: nothing came", x.count(1), 117);
    due.is("29: BEYOND is asked first", x.feed(0, 5), Due.BEYOND);
    due.is("29: 117 and 3", x.feed(0x202020, 3), 120);
    due.is("29: 120 and 1", x.feed(0x20, 1), Due.FULL);
    due.is("29: all blank", x.car(), -121);
  }

  private static void wipe() {
    SeatStraps x = new SeatStraps();
    x.feed(0x6162, 2);
    due.is("30: how many", x.wipe(), 2);
    due.is("30: empty", x.count(1), 0);
    due.is("30: again", x.wipe(), 0);
    due.is("30: from the beginning", Due.car(x, "rain 1"), 1);
    due.is("30: car() wipes", x.wipe(), 0);
  }

  private static void children() {
    SeatStraps x = new SeatStraps();
    due.is("31: six", Due.car(x, "child;archer size 0;big mood 9;baby coat;howler size 99 mood 0 coat;self mood 1 coat"), 6);
    int[][] want = {
      {0, 30, 5, 0}, {1, 0, 5, 0}, {2, 30, 9, 0}, {3, 30, 5, 1}, {4, 99, 0, 1}, {5, 30, 1, 1}};
    for (int c = 0; c < 6; c++) {
      for (int what = 0; what < 4; what++) {
        due.is("31: of(" + c + ", " + what + ")", x.of(c, what), want[c][what]);
      }
      due.is("31: no ARCH", x.of(c, 4), 0);
      due.is("31: not TIGHT", x.of(c, 5), 0);
      due.is("31: nowhere", x.of(c, 6), -1);
    }
    SeatStraps y = Due.carOf(2);
    due.is("31: a new one beside what there is", Due.car(y, "howler"), 1);
    due.is("31: behind it", y.of(1, 0) * 10 + y.of(0, 0), 42);
    due.is("31: size and coat", Due.car(y, "self size 12 coat"), 1);
    due.is("31: size and coat", y.of(2, 1) * 100 + y.of(2, 2) * 10 + y.of(2, 3), 1251);
  }

  private static void seats() {
    SeatStraps x = new SeatStraps();
    due.is("31: all of a seat", Due.car(x, "seat 2 twists 5 crumbs 9 turned"), 1);
    due.is("31: TWISTS", x.seatOf(2, 0), 5);
    due.is("31: CRUMBS", x.seatOf(2, 1), 9);
    due.is("31: TURNED", x.seatOf(2, 2), 1);
    due.is("31: crumbs alone", Due.car(x, "seat 2 crumbs 0"), 1);
    due.is("31: TWISTS stay", x.seatOf(2, 0), 5);
    due.is("31: no CRUMBS", x.seatOf(2, 1), 0);
    due.is("31: not TURNED", x.seatOf(2, 2), 0);
    due.is("31: turned alone", Due.car(x, "seat 0 turned"), 1);
    due.is("31: TURNED", x.seatOf(0, 2), 1);
    due.is("31: nothing else", Due.car(x, "seat 0"), 1);
    due.is("31: not TURNED", x.seatOf(0, 2), 0);
    due.is("31: twists and turned", Due.car(x, "seat 1 twists 0 turned"), 1);
    due.is("31: TURNED", x.seatOf(1, 2), 1);
    x.child(0);
    x.click(0, 1);
    due.is("31: one sits there", Due.car(x, "seat 1 twists 4"), 1);
    due.is("31: and stays there", x.seatOf(1, 4) * 10 + x.of(0, 5), 9);
  }

  private static void manyItems() {
    SeatStraps x = new SeatStraps();
    due.is("31: without blanks", Due.car(x, "rain9;seat1twists2crumbs3turned;babysize7mood8coat"), -1 - 32);
    due.is("31: without blanks but between words", Due.car(x, "rain9;seat1twists2crumbs3turned;baby size7mood8coat"), 3);
    due.is("31: rain", x.now(2), 9);
    due.is("31: seat", x.seatOf(1, 0) * 100 + x.seatOf(1, 1) * 10 + x.seatOf(1, 2), 231);
    due.is("31: baby", x.of(0, 1) * 100 + x.of(0, 2) * 10 + x.of(0, 3), 781);
    due.is("31: many blanks", Due.car(x, "   rain   2   ;   rain   3   "), 2);
    due.is("31: the last one counts", x.now(2), 3);
    due.is("31: noughts ahead", Due.car(x, "rain 0000000000000004"), 1);
    due.is("31: noughts ahead", x.now(2), 4);
    StringBuilder most = new StringBuilder("rain1");
    while (most.length() + 6 <= 120) {
      most.append(";rain").append(most.length() % 10);
    }
    due.is("31: as many as can be", Due.car(x, most.toString()), 20);
    due.is("31: no finding", x.status(-1), 0);
  }

  private static void fault(String text, int place) {
    SeatStraps x = Due.carOf(0);
    due.is("31: car of '" + text + "'", Due.car(x, text), -1 - place);
    due.is("31: the tape is empty", x.count(1), 0);
    due.is("31: nothing came", x.count(0) * 10 + x.now(2), 10);
    due.is("31: no finding", x.status(-1), 0);
  }

  private static void faults() {
    fault("", 0);
    fault("   ", 3);
    fault(";", 0);
    fault("7", 0);
    fault("rain", 4);
    fault("rain ", 5);
    fault("rain 1;", 7);
    fault("rain 1; ", 8);
    fault("rain 1;;rain 1", 7);
    fault("rain 1 rain 1", 7);
    fault("rain 1 1", 7);
    fault("rain ;", 5);
    fault("rain x", 5);
    fault("rains 1", 0);
    fault("rai", 0);
    fault("Rain 1", 0);
    fault("rain 1;cat", 7);
    fault("seat", 4);
    fault("seat twists 1", 5);
    fault("seat 1 twists", 13);
    fault("seat 1 twists crumbs 1", 14);
    fault("seat 1 turned twists 1", 14);
    fault("seat 1 turned turned", 14);
    fault("seat 1 coat", 7);
    fault("seat 1 crumbs 2 twists 1", 16);
    fault("child 5", 6);
    fault("child child", 6);
    fault("child mood 1 size 2", 13);
    fault("child coat mood 1", 11);
    fault("child coat coat", 11);
    fault("child size", 10);
    fault("child size mood 1", 11);
    fault("child turned", 6);
    fault("size 3", 0);
    fault("coat", 0);
    fault("twists 3", 0);
    fault("rain -1", 5);
    fault("rain\t1", 4);
    fault("rain 1\n", 6);
    fault("rain 1, rain 2", 6);
    fault("child" + (char) 228, 5);
    fault((char) 0 + "child", 0);
    fault((char) 255 + "", 0);
    fault("rain 1" + (char) 0, 6);
    fault("rain 1;" + (char) 0, 7);
    fault("seat twists x", 5);
    fault("xain 1", 0);
    fault("xeat 1", 0);
    fault("xhild", 0);
    fault("chilx", 0);
    fault("child xize 1", 6);
    fault("child moox 1", 6);
    fault("childs", 0);
    fault("c", 0);
    fault("child`", 5);
    fault("child{", 5);
    fault("rain /", 5);
    fault("rain :", 5);
  }

  private static void faultsOfNumbers() {
    fault("rain 10", 5);
    fault("rain 999", 5);
    fault("rain 1000", 5);
    fault("rain 4294967296", 5);
    fault("rain 18446744073709551616", 5);
    fault("rain 4294967297;rain 1", 5);
    fault("seat 3", 5);
    fault("seat 10", 5);
    fault("seat 0 twists 6", 14);
    fault("seat 0 twists 5 crumbs 10", 23);
    fault("child size 100", 11);
    fault("child mood 10", 11);
    fault("child size 99 mood 10", 19);
  }

  private static void faultOfASeventh() {
    SeatStraps x = Due.carOf(0, 0, 0, 0, 0);
    due.is("31: a 7th", Due.car(x, "baby; self"), -1 - 6);
    due.is("31: none came", x.count(0), 5);
    due.is("31: a 7th's own fault isn't asked", Due.car(x, "baby; self size 100"), -1 - 6);
    due.is("31: a 6th", Due.car(x, "baby"), 1);
    due.is("31: a 7th", Due.car(x, " child"), -1 - 1);
    due.is("31: others may come", Due.car(x, "seat 0; rain 3"), 2);
    due.is("31: no finding", x.status(-1), 0);
  }

  private static void faultChangesNothing() {
    SeatStraps x = Due.carOf(3);
    x.seat(0, 2, 1);
    x.seat(0, 0, 2);
    x.rain(4);
    due.is("31: late fault", Due.car(x, "seat 0 twists 5; rain 9; child; self size 5 mood 99"), -1 - 49);
    due.is("31: TURNED", x.seatOf(0, 2), 1);
    due.is("31: TWISTS", x.seatOf(0, 0), 2);
    due.is("31: RAIN", x.now(2), 4);
    due.is("31: CHILDREN", x.count(0), 1);
    due.is("31: a new one later is as at first", x.child(0) * 100 + x.of(1, 1), 130);
  }
}
