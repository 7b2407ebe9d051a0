/** Promises 5 to 11. */
final class ChildrenTest {
  private static final Due due = new Due("ChildrenTest");

  public static void main(String[] args) {
    child();
    of();
    fretsOfOne();
    set();
    turn();
    as();
    takes();
    seconds();
    snug();
    due.end();
  }

  private static void child() {
    SeatStraps x = new SeatStraps();
    due.is("5: kind -1", x.child(-1), Due.BEYOND);
    due.is("5: kind 6", x.child(6), Due.BEYOND);
    due.is("5: kind MAX", x.child(Due.MAX), Due.BEYOND);
    due.is("5: kind MIN", x.child(Due.MIN), Due.BEYOND);
    due.is("5: nobody came", x.count(0), 0);
    for (int i = 0; i < 6; i++) {
      due.is("5: number", x.child(5 - i), i);
      due.is("5: kind", x.of(i, 0), 5 - i);
    }
    due.is("5: a 7th", x.child(0), Due.FULL);
    due.is("5: BEYOND is asked first", x.child(6), Due.BEYOND);
    due.is("5: six there", x.count(0), 6);
    due.is("5: FULL is counted", x.status(1), 1);
  }

  private static void of() {
    SeatStraps x = Due.carOf(2);
    int[] atFirst = {2, 30, 5, 0, 0, 0, -1};
    for (int what = 0; what < 7; what++) {
      due.is("6: at first, what " + what, x.of(0, what), atFirst[what]);
    }
    x.seat(1, 0, 2);
    x.click(0, 1);
    due.is("6: TIGHT", x.of(0, 5), 7);
    due.is("6: SEAT", x.of(0, 6), 1);
    due.is("6: what 8", x.of(0, 8), Due.BEYOND);
    due.is("6: what -1", x.of(0, -1), Due.BEYOND);
    due.is("6: child 1", x.of(1, 0), Due.BEYOND);
    due.is("6: child -1", x.of(-1, 0), Due.BEYOND);
    due.is("6: extremes", x.of(Due.MAX, Due.MAX), Due.BEYOND);
    due.is("6: extremes", x.of(Due.MIN, Due.MIN), Due.BEYOND);
  }

  /** of(child, 7), by minutes whose rest by 3 is 0, 1 and 2. */
  private static void fretsOfOne() {
    int[][] nowhere = {{1, 1, 1, 2, 2, 1}, {0, 0, 0, 1, 0, 0}, {0, 0, 0, 1, 0, 0}, {1, 1, 1, 2, 2, 1}};
    SeatStraps x = Due.carOfAllKinds();
    for (int minute = 0; minute < 4; minute++) {
      for (int kind = 0; kind < 6; kind++) {
        due.is("6: frets nowhere", x.of(kind, 7), nowhere[minute][kind]);
      }
      x.drive(1);
    }
    SeatStraps y = Due.carOf(1, 4, 3);
    y.click(0, 0);
    y.click(1, 2);
    due.is("6: ARCHER, tight by 9", y.of(0, 7), 2);
    due.is("6: HOWLER, tight by 9", y.of(1, 7), 4);
    due.is("6: BABY nowhere is alone", y.of(2, 7), 2);
    y.click(2, 1);
    due.is("6: BABY in the middle, both beside", y.of(2, 7), 1);
    y.letOut(0);
    due.is("6: BABY in the middle, one beside", y.of(2, 7), 1);
    y.letOut(1);
    due.is("6: BABY in the middle, alone", y.of(2, 7), 2);
    y.letOut(2);
    y.click(2, 0);
    y.click(0, 2);
    due.is("6: BABY at the side, nobody in the middle", y.of(2, 7), 2);
    y.click(1, 1);
    due.is("6: BABY at the side, one in the middle", y.of(2, 7), 1);
    y.set(1, 2, 0);
    due.is("6: frets are more than there is of mood", y.of(1, 7), 4);
    fretsByTight();
  }

  private static void fretsByTight() {
    for (int twists = 0; twists <= 5; twists++) {
      SeatStraps x = Due.carOfAllKinds();
      x.drive(1);
      x.seat(0, 0, twists);
      x.click(1, 0);
      due.is("6: ARCHER, tight by " + (9 - twists), x.of(1, 7), twists < 3 ? 1 : 0);
      x.letOut(1);
      x.click(4, 0);
      due.is("6: HOWLER, tight by " + (9 - twists), x.of(4, 7), twists < 3 ? 2 : 0);
      x.letOut(4);
      x.click(5, 0);
      due.is("6: SELF doesn't mind", x.of(5, 7), 0);
    }
  }

  private static void set() {
    SeatStraps x = Due.carOf(0, 1);
    int[] most = {0, 99, 9, 1, 9};
    int[] atFirst = {0, 30, 5, 0, 0};
    for (int what = 1; what <= 4; what++) {
      due.is("7: to the most", x.set(1, what, most[what]), atFirst[what]);
      due.is("7: above the most", x.set(1, what, most[what] + 1), Due.BEYOND);
      due.is("7: below 0", x.set(1, what, -1), Due.BEYOND);
      due.is("7: extremes", x.set(1, what, Due.MIN), Due.BEYOND);
      due.is("7: extremes", x.set(1, what, Due.MAX), Due.BEYOND);
      due.is("7: it became so", x.of(1, what), most[what]);
      due.is("7: to 0", x.set(1, what, 0), most[what]);
      due.is("7: it became so", x.of(1, what), 0);
      due.is("7: children are apart", x.of(0, what), atFirst[what]);
    }
    due.is("7: KIND can't be set", x.set(1, 0, 0), Due.BEYOND);
    due.is("7: TIGHT can't be set", x.set(1, 5, 0), Due.BEYOND);
    due.is("7: child 2", x.set(2, 1, 0), Due.BEYOND);
    due.is("7: child -1", x.set(-1, 1, 0), Due.BEYOND);
    due.is("7: extremes", x.set(Due.MAX, Due.MAX, Due.MAX), Due.BEYOND);
  }

  private static void turn() {
    SeatStraps x = Due.carOf(4);
    x.set(0, 4, 6);
    x.click(0, 0);
    due.is("8: what it was", x.turn(0, 3), 4);
    due.is("8: what it is", x.of(0, 0), 3);
    due.is("8: still sits", x.of(0, 6), 0);
    due.is("8: as tight", x.of(0, 5), 6);
    due.is("8: arch stays", x.of(0, 4), 7);
    due.is("8: the same", x.turn(0, 3), 3);
    due.is("8: kind 6", x.turn(0, 6), Due.BEYOND);
    due.is("8: kind -1", x.turn(0, -1), Due.BEYOND);
    due.is("8: child 1", x.turn(1, 0), Due.BEYOND);
    due.is("8: child -1", x.turn(-1, 0), Due.BEYOND);
    due.is("8: nothing changed", x.of(0, 0), 3);
  }

  private static void as() {
    boolean[][] is = {
      {true, false, false, false, false, false},
      {true, true, false, false, false, false},
      {true, false, true, false, false, false},
      {true, false, false, true, false, false},
      {true, true, false, false, true, false},
      {true, false, true, false, false, true}};
    SeatStraps x = Due.carOfAllKinds();
    for (int child = 0; child < 6; child++) {
      x.set(child, 2, child + 1);
      for (int kind = 0; kind < 6; kind++) {
        due.is("9: as(" + child + ", " + kind + ")", x.as(child, kind), is[child][kind] ? child + 1 : Due.KIND);
      }
    }
    due.is("9: kind 6", x.as(0, 6), Due.BEYOND);
    due.is("9: kind -1", x.as(0, -1), Due.BEYOND);
    due.is("9: child 6", x.as(6, 0), Due.BEYOND);
    due.is("9: child -1", x.as(-1, 0), Due.BEYOND);
    due.is("9: extremes", x.as(Due.MIN, Due.MAX), Due.BEYOND);
  }

  /** TAKES of each kind, seen by seconds() where nothing else takes any. */
  private static void takes() {
    SeatStraps x = Due.carOfAllKinds();
    int[] plain = {10, 10, 5, 15, 10, 5};
    for (int kind = 0; kind < 6; kind++) {
      due.is("10: takes", x.seconds(kind, 0), plain[kind]);
      x.set(kind, 4, 9);
    }
    int[] arched = {10, 37, 5, 15, 37, 5};
    for (int kind = 0; kind < 6; kind++) {
      due.is("10: takes, arched", x.seconds(kind, 0), arched[kind]);
    }
    x.seat(2, 2, 1);
    due.is("10: BABY turned", x.seconds(3, 2), 10);
    due.is("10: BABY elsewhere", x.seconds(3, 1), 15);
    for (int mood = 0; mood <= 9; mood++) {
      x.set(4, 2, mood);
      x.set(5, 2, mood);
      x.set(1, 2, mood);
      x.set(2, 2, mood);
      due.is("10: HOWLER, mood " + mood, x.seconds(4, 0), mood < 3 ? 74 : 37);
      due.is("10: SELF, mood " + mood, x.seconds(5, 0), mood < 7 ? 5 : 0);
      due.is("10: ARCHER, mood " + mood, x.seconds(1, 0), 37);
      due.is("10: BIG, mood " + mood, x.seconds(2, 0), 5);
    }
  }

  private static void seconds() {
    SeatStraps x = Due.carOf(0, 0, 0, 0);
    x.seat(0, 0, 5);
    due.is("10: twists", x.seconds(0, 0), 35);
    x.seat(1, 1, 9);
    due.is("10: crumbs", x.seconds(0, 1), 28);
    x.rain(7);
    due.is("10: rain", x.seconds(0, 2), 17);
    x.set(0, 3, 1);
    due.is("10: coat", x.seconds(0, 2), 21);
    x.click(1, 0);
    due.is("10: middle, one beside", x.seconds(0, 1), 47);
    due.is("10: the other side", x.seconds(0, 2), 21);
    due.is("10: where one sits", x.seconds(0, 0), 46);
    x.click(2, 2);
    due.is("10: middle, two beside", x.seconds(0, 1), 55);
    due.is("10: one that sits, in the middle", x.seconds(1, 1), 51);
    x.letOut(1);
    x.letOut(2);
    x.click(3, 1);
    due.is("10: side 0, one in the middle", x.seconds(0, 0), 49);
    due.is("10: side 2, one in the middle", x.seconds(0, 2), 24);
    due.is("10: one in the middle isn't beside itself", x.seconds(0, 1), 39);
    due.is("10: nothing changed", x.of(0, 6), -1);
    due.is("10: seat 3", x.seconds(0, 3), Due.BEYOND);
    due.is("10: seat -1", x.seconds(0, -1), Due.BEYOND);
    due.is("10: child 4", x.seconds(4, 0), Due.BEYOND);
    due.is("10: child -1", x.seconds(-1, 0), Due.BEYOND);
    due.is("10: extremes", x.seconds(Due.MAX, Due.MIN), Due.BEYOND);
  }

  private static void snug() {
    SeatStraps x = Due.carOfAllKinds();
    int[] plain = {9, 9, 9, 5, 9, 8};
    for (int kind = 0; kind < 6; kind++) {
      due.is("11: snug", x.snug(kind, 1), plain[kind]);
      x.set(kind, 4, 7);
      x.set(kind, 1, 99);
    }
    int[] grown = {9, 6, 7, 5, 6, 6};
    int[] coated = {6, 3, 4, 2, 3, 3};
    for (int kind = 0; kind < 6; kind++) {
      due.is("11: snug, arched and big", x.snug(kind, 1), grown[kind]);
      x.set(kind, 3, 1);
      due.is("11: snug, with a coat", x.snug(kind, 1), coated[kind]);
    }
    x.seat(1, 0, 5);
    int[] twisted = {1, 0, 0, 0, 0, 0};
    for (int kind = 0; kind < 6; kind++) {
      due.is("11: snug, 0 at least", x.snug(kind, 1), twisted[kind]);
    }
    x.seat(1, 2, 1);
    x.set(3, 3, 0);
    due.is("11: BABY turned", x.snug(3, 1), 4);
    int[][] sizes = {{39, 9}, {40, 8}, {79, 8}, {80, 7}, {0, 9}};
    for (int[] size : sizes) {
      x.set(2, 3, 0);
      x.set(2, 1, size[0]);
      due.is("11: BIG of " + size[0], x.snug(2, 0), size[1]);
    }
    for (int[] size : sizes) {
      x.set(5, 3, 0);
      x.set(5, 1, size[0]);
      due.is("11: SELF of " + size[0], x.snug(5, 0), size[1] - 1);
    }
    x.click(2, 0);
    due.is("11: one that sits, where one sits", x.snug(2, 0), 9);
    due.is("11: seat 3", x.snug(0, 3), Due.BEYOND);
    due.is("11: seat -1", x.snug(0, -1), Due.BEYOND);
    due.is("11: child 6", x.snug(6, 0), Due.BEYOND);
    due.is("11: child -1", x.snug(-1, 0), Due.BEYOND);
  }
}
