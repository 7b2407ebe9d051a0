/** Promises 12 to 19. */
final class ClicksTest {
  private static final Due due = new Due("ClicksTest");

  public static void main(String[] args) {
    click();
    archGrows();
    spentAddsUp();
    letOut();
    bribe();
    drive();
    driveToTheEnd();
    loosens();
    now();
    on();
    out();
    firstOut();
    due.end();
  }

  private static void click() {
    SeatStraps x = Due.carOf(0, 2, 3);
    x.seat(0, 0, 1);
    due.is("12: TIGHT", x.click(0, 0), 8);
    due.is("12: it sits", x.of(0, 6), 0);
    due.is("12: who sits", x.seatOf(0, 4), 0);
    due.is("12: WEAR", x.seatOf(0, 3), 1);
    due.is("12: SPENT", x.now(1), 15);
    due.is("12: no ARCH of a CHILD", x.of(0, 4), 0);
    due.is("12: it sits somewhere", x.click(0, 1), Due.STATE);
    due.is("12: it sits there itself", x.click(0, 0), Due.STATE);
    due.is("12: somebody there", x.click(1, 0), Due.STATE);
    due.is("12: seat 3", x.click(0, 3), Due.BEYOND);
    due.is("12: seat -1", x.click(1, -1), Due.BEYOND);
    due.is("12: child 3", x.click(3, 0), Due.BEYOND);
    due.is("12: child -1", x.click(-1, 0), Due.BEYOND);
    due.is("12: extremes", x.click(Due.MIN, Due.MAX), Due.BEYOND);
    due.is("12: nothing changed", x.now(1) * 100 + x.count(3) * 10 + x.count(2), 1511);
    due.is("12: BIG in the middle", x.click(1, 1), 9);
    due.is("12: SPENT, one in the way", x.now(1), 28);
    due.is("12: BABY at the side", x.click(2, 2), 5);
    due.is("12: SPENT, one in the way", x.now(1), 46);
    due.is("12: all sit", x.now(3), 7);
  }

  private static void archGrows() {
    SeatStraps x = Due.carOfAllKinds();
    for (int kind = 0; kind < 6; kind++) {
      x.set(kind, 4, 7);
      int tight = x.snug(kind, 1);
      due.is("12: TIGHT by ARCH as it was", x.click(kind, 1), tight);
      due.is("12: ARCH then", x.of(kind, 4), kind == 1 || kind == 4 ? 8 : 7);
      x.letOut(kind);
    }
    for (int i = 0; i < 3; i++) {
      x.click(4, 0);
      due.is("12: ARCH is 9 at most", x.of(4, 4), 9);
      x.letOut(4);
    }
  }

  private static void spentAddsUp() {
    SeatStraps x = Due.carOf(4, 4, 4);
    for (int c = 0; c < 3; c++) {
      x.set(c, 2, 0);
      x.set(c, 4, 9);
      x.set(c, 3, 1);
      x.seat(c, 0, 5);
      x.seat(c, 1, 9);
    }
    x.rain(9);
    int spent = 0;
    for (int i = 0; i < 160; i++) {
      x.click(0, 1);
      spent += 74 + 25 + 18 + 4 + 9;
      x.letOut(0);
    }
    due.is("12: SPENT of many", x.now(1), spent);
    due.is("12: WEAR of many", x.seatOf(1, 3), 160);
  }

  private static void letOut() {
    SeatStraps x = Due.carOf(0, 3);
    due.is("13: sits nowhere", x.letOut(0), Due.STATE);
    x.click(0, 2);
    x.click(1, 1);
    due.is("13: the seat", x.letOut(0), 2);
    due.is("13: TIGHT", x.of(0, 5), 0);
    due.is("13: nowhere", x.of(0, 6), -1);
    due.is("13: nobody", x.seatOf(2, 4), -1);
    due.is("13: WEAR stays", x.seatOf(2, 3), 1);
    due.is("13: the other one sits", x.now(3), 2);
    due.is("13: again", x.letOut(0), Due.STATE);
    due.is("13: child 2", x.letOut(2), Due.BEYOND);
    due.is("13: child -1", x.letOut(-1), Due.BEYOND);
    due.is("13: extremes", x.letOut(Due.MIN), Due.BEYOND);
    due.is("13: the other one", x.letOut(1), 1);
  }

  private static void bribe() {
    SeatStraps x = Due.carOf(0, 0);
    due.is("14: 5 and 3", x.bribe(0), 8);
    due.is("14: 9 at most", x.bribe(0), 9);
    due.is("14: it sits nowhere, no crumbs", x.seatOf(0, 1) + x.seatOf(1, 1) + x.seatOf(2, 1), 0);
    x.click(1, 2);
    x.set(1, 2, 0);
    x.seat(2, 1, 7);
    due.is("14: 0 and 3", x.bribe(1), 3);
    due.is("14: crumbs", x.seatOf(2, 1), 8);
    due.is("14: 3 and 3", x.bribe(1), 6);
    due.is("14: crumbs", x.seatOf(2, 1), 9);
    due.is("14: 6 and 3", x.bribe(1), 9);
    due.is("14: crumbs, 9 at most", x.seatOf(2, 1), 9);
    due.is("14: no crumbs elsewhere", x.seatOf(0, 1) + x.seatOf(1, 1), 0);
    due.is("14: child 2", x.bribe(2), Due.BEYOND);
    due.is("14: child -1", x.bribe(-1), Due.BEYOND);
    due.is("14: extremes", x.bribe(Due.MAX), Due.BEYOND);
  }

  private static void drive() {
    SeatStraps x = Due.carOf(0, 1, 3, 4);
    x.click(0, 0);
    x.click(1, 2);
    due.is("15: those that sit", x.drive(1), 3);
    due.is("15: CHILD in minute 0", x.of(0, 2), 4);
    due.is("15: ARCHER in minute 0", x.of(1, 2), 3);
    due.is("15: who sits nowhere doesn't fret", x.of(2, 2) + x.of(3, 2), 10);
    due.is("15: MINUTE", x.now(0), 1);
    x.drive(2);
    due.is("15: CHILD in minutes 1, 2", x.of(0, 2), 4);
    due.is("15: ARCHER in minutes 1, 2", x.of(1, 2), 1);
    due.is("15: ARCHER is looser", x.of(1, 5), 8);
    x.drive(1);
    due.is("15: CHILD in minute 3", x.of(0, 2), 3);
    due.is("15: ARCHER's mood is 0 at least", x.of(1, 2), 0);
    due.is("15: ARCHER is looser", x.of(1, 5), 7);
    due.is("15: n 0", x.drive(0), Due.BEYOND);
    due.is("15: n -1", x.drive(-1), Due.BEYOND);
    due.is("15: n 61", x.drive(61), Due.BEYOND);
    due.is("15: n MAX", x.drive(Due.MAX), Due.BEYOND);
    due.is("15: n MIN", x.drive(Due.MIN), Due.BEYOND);
    due.is("15: MINUTE stays", x.now(0), 4);
    due.is("15: 60 minutes", x.drive(60), 0);
    due.is("15: MINUTE", x.now(0), 64);
  }

  private static void driveToTheEnd() {
    SeatStraps x = Due.carOf(0);
    for (int i = 0; i < 166; i++) {
      x.drive(60);
    }
    due.is("15: MINUTE", x.now(0), 9960);
    due.is("15: above 9999", x.drive(40), Due.STATE);
    due.is("15: MINUTE stays", x.now(0), 9960);
    due.is("15: BEYOND is asked first", x.drive(61), Due.BEYOND);
    due.is("15: to 9999", x.drive(39), 0);
    due.is("15: MINUTE", x.now(0), 9999);
    due.is("15: no more", x.drive(1), Due.STATE);
    x.click(0, 0);
    due.is("17: ON goes on behind 9999", x.on(0, 1, 0), 4);
    due.is("17: ON goes on behind 9999", x.on(0, 3, 0), 4);
    due.is("17: ON goes on behind 9999", x.on(0, 4, 0), 3);
    due.is("17: MINUTE stays", x.now(0), 9999);
  }

  private static void loosens() {
    SeatStraps x = Due.carOf(0, 3, 3);
    x.drive(1);
    x.seat(0, 0, 5);
    x.set(0, 3, 1);
    due.is("15: hardly tight", x.click(0, 0), 1);
    x.click(1, 1);
    x.set(1, 2, 9);
    x.set(0, 2, 2);
    due.is("15: mood 2 holds", x.drive(1), 3);
    due.is("15: TIGHT stays", x.of(0, 5), 1);
    x.set(0, 2, 1);
    due.is("15: mood 1 doesn't", x.drive(1), 2);
    due.is("15: OUT", x.of(0, 6), -1);
    due.is("15: OUT", x.seatOf(0, 4), -1);
    due.is("15: the other one had company", x.of(1, 2), 9);
    x.drive(1);
    due.is("15: and has none then", x.of(1, 2), 7);
    SeatStraps y = Due.carOf(0, 0);
    y.click(0, 0);
    y.click(1, 1);
    y.set(0, 2, 2);
    due.is("15: mood is less first, then looser", y.drive(1), 3);
    due.is("15: looser", y.of(0, 5), 8);
    due.is("15: the other one isn't", y.of(1, 5), 9);
  }

  private static void now() {
    SeatStraps x = Due.carOf(0, 1, 2);
    x.rain(6);
    x.set(0, 2, 9);
    x.click(1, 2);
    x.click(2, 0);
    x.seat(1, 0, 2);
    x.click(0, 1);
    due.is("16: MINUTE", x.now(0), 0);
    due.is("16: SPENT", x.now(1), 16 + 11 + 42);
    due.is("16: RAIN", x.now(2), 6);
    due.is("16: those that sit", x.now(3), 7);
    due.is("16: MOODS", x.now(4), 19);
    due.is("16: TIGHT", x.now(5), 25);
    x.letOut(1);
    due.is("16: those that sit", x.now(3), 5);
    due.is("16: MOODS of all", x.now(4), 19);
    due.is("16: TIGHT", x.now(5), 16);
    x.drive(7);
    due.is("16: MINUTE", x.now(0), 7);
    SeatStraps six = Due.carOfAllKinds();
    six.click(5, 0);
    due.is("16: MOODS of six", six.now(4), 30);
    due.is("16: TIGHT of six", six.now(5), 8);
    due.is("16: the last one sits", six.now(3), 32);
    due.is("16: what 6", x.now(6), Due.BEYOND);
    due.is("16: what -1", x.now(-1), Due.BEYOND);
    due.is("16: extremes", x.now(Due.MIN), Due.BEYOND);
    due.is("16: extremes", x.now(Due.MAX), Due.BEYOND);
  }

  private static void on() {
    SeatStraps x = Due.carOf(0, 0);
    x.click(0, 0);
    int[] moods = {5, 4, 4, 4, 3, 3, 3, 2, 2, 2, 1, 1, 1, 0};
    int[] tights = {9, 9, 9, 9, 9, 9, 9, 9, 9, 9, 8, 7, 6, 5};
    for (int n = 0; n < moods.length; n++) {
      due.is("17: MOOD on " + n, x.on(0, n, 0), moods[n]);
      due.is("17: TIGHT on " + n, x.on(0, n, 1), tights[n]);
    }
    due.is("17: on 17", x.on(0, 17, 1), 1);
    due.is("17: on 18", x.on(0, 18, 1), 0);
    due.is("17: on 60", x.on(0, 60, 1), 0);
    due.is("17: who sits nowhere", x.on(1, 60, 0), 5);
    due.is("17: nothing changes", x.of(0, 2) * 100 + x.of(0, 5) * 10 + x.now(0), 590);
    due.is("17: n -1", x.on(0, -1, 0), Due.BEYOND);
    due.is("17: n 61", x.on(0, 61, 0), Due.BEYOND);
    due.is("17: what 2", x.on(0, 0, 2), Due.BEYOND);
    due.is("17: what -1", x.on(0, 0, -1), Due.BEYOND);
    due.is("17: child 2", x.on(2, 0, 0), Due.BEYOND);
    due.is("17: child -1", x.on(-1, 0, 0), Due.BEYOND);
    due.is("17: extremes", x.on(Due.MIN, Due.MAX, Due.MIN), Due.BEYOND);
    due.is("17: nobody left", x.drive(18), 0);
  }

  private static void out() {
    SeatStraps x = Due.carOf(0, 5, 4);
    due.is("18: sits nowhere", x.out(0), Due.STATE);
    x.click(0, 0);
    due.is("18: CHILD", x.out(0), 18);
    x.set(0, 2, 9);
    due.is("18: CHILD in a good mood", x.out(0), 30);
    x.set(0, 2, 0);
    due.is("18: CHILD in none", x.out(0), 9);
    due.is("18: nothing changes", x.now(3), 1);
    x.letOut(0);
    x.seat(1, 0, 5);
    x.set(1, 3, 1);
    x.set(1, 1, 99);
    x.set(1, 2, 1);
    due.is("18: SELF, not tight", x.click(1, 1), 0);
    due.is("18: SELF, at once", x.out(1), 1);
    due.is("18: child 3", x.out(3), Due.BEYOND);
    due.is("18: child -1", x.out(-1), Due.BEYOND);
    due.is("18: extremes", x.out(Due.MAX), Due.BEYOND);
    due.is("18: STATE is counted", x.status(4), 1);
  }

  private static void firstOut() {
    SeatStraps x = Due.carOf(0, 1, 0);
    due.is("19: nobody sits", x.firstOut(), Due.NONE);
    x.click(0, 0);
    due.is("19: one", x.firstOut(), 18);
    x.click(1, 2);
    due.is("19: the other one", x.firstOut(), x.out(1));
    x.set(2, 2, 0);
    x.seat(1, 0, 5);
    x.click(2, 1);
    due.is("19: the third one", x.firstOut(), 4);
    due.is("19: nothing changes", x.now(3), 7);
    x.drive(3);
    due.is("19: one more minute", x.firstOut(), 1);
    x.drive(1);
    due.is("19: out", x.now(3), 3);
  }
}
