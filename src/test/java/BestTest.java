/** Promises 20 to 28. */
final class BestTest {
  private static final Due due = new Due("BestTest");

  public static void main(String[] args) {
    quick();
    safe();
    all();
    way();
    kind();
    bribes();
    coat();
    mood();
    worst();
    due.end();
  }

  private static void quick() {
    SeatStraps x = Due.carOf(0, 3, 0, 0);
    due.is("20: all alike", x.quick(0), 0);
    x.seat(0, 1, 1);
    due.is("20: of several the least", x.quick(0), 1);
    x.click(2, 2);
    due.is("20: one in the way", x.quick(0), 0);
    x.seat(0, 0, 2);
    due.is("20: twists and crumbs are more", x.quick(0), 1);
    x.seat(0, 0, 0);
    x.seat(0, 1, 6);
    due.is("20: 12 to 8", x.quick(0), 1);
    x.click(0, 0);
    due.is("20: the last one", x.quick(1), 1);
    due.is("20: it sits", x.quick(0), Due.STATE);
    x.click(1, 1);
    due.is("20: all are taken", x.quick(3), Due.NONE);
    due.is("20: it sits, all are taken", x.quick(1), Due.STATE);
    due.is("20: child 4", x.quick(4), Due.BEYOND);
    due.is("20: child -1", x.quick(-1), Due.BEYOND);
    due.is("20: extremes", x.quick(Due.MIN), Due.BEYOND);
    SeatStraps y = Due.carOf(3);
    y.seat(2, 2, 1);
    due.is("20: BABY where it is turned", y.quick(0), 2);
  }

  private static void safe() {
    SeatStraps x = Due.carOf(0, 3, 0, 0);
    due.is("21: all alike", x.safe(0), 0);
    x.seat(0, 0, 1);
    due.is("21: of several the least", x.safe(0), 1);
    x.seat(1, 0, 1);
    due.is("21: the last one", x.safe(0), 2);
    x.seat(0, 2, 1);
    due.is("21: BABY where it is turned", x.safe(1), 0);
    x.click(0, 2);
    due.is("21: where nobody sits", x.safe(2), 0);
    x.click(2, 0);
    due.is("21: the one that is left", x.safe(1), 1);
    due.is("21: it sits", x.safe(0), Due.STATE);
    x.click(1, 1);
    due.is("21: all are taken", x.safe(3), Due.NONE);
    due.is("21: it sits, all are taken", x.safe(1), Due.STATE);
    due.is("21: child 4", x.safe(4), Due.BEYOND);
    due.is("21: child -1", x.safe(-1), Due.BEYOND);
    SeatStraps y = Due.carOf(1);
    for (int s = 0; s < 3; s++) {
      y.seat(s, 0, 5);
    }
    y.set(0, 3, 1);
    y.set(0, 4, 9);
    due.is("21: all are 0", y.safe(0), 0);
  }

  private static void all() {
    SeatStraps x = Due.carOf(0, 0, 0, 4);
    due.is("22: three alike, the middle one first", x.all(7), 36);
    x.set(3, 2, 2);
    x.set(3, 4, 2);
    due.is("22: with a HOWLER", x.all(14), 20 + 32 + 6);
    x.rain(2);
    due.is("22: rain on each", x.all(7), 42);
    x.seat(1, 0, 5);
    due.is("22: a twisted middle", x.all(7), 67);
    due.is("22: nothing changes", x.now(3) + x.now(1) + x.count(3) + x.of(3, 4), 2);
    due.is("22: two", x.all(3), Due.SIZE);
    due.is("22: none", x.all(0), Due.SIZE);
    due.is("22: four", x.all(15), Due.SIZE);
    due.is("22: no child 4", x.all(16 + 3), Due.BEYOND);
    due.is("22: child 4 alone", x.all(16), Due.BEYOND);
    due.is("22: below 0", x.all(-1), Due.BEYOND);
    due.is("22: MIN", x.all(Due.MIN), Due.BEYOND);
    due.is("22: MAX", x.all(Due.MAX), Due.BEYOND);
    x.click(3, 0);
    due.is("22: anybody sits", x.all(7), Due.STATE);
    due.is("22: SIZE is asked first", x.all(3), Due.SIZE);
    due.is("22: BEYOND is asked first", x.all(64), Due.BEYOND);
    SeatStraps y = Due.carOf(3, 0, 0);
    y.seat(0, 2, 1);
    due.is("22: BABY in the turned one", y.all(7), 36);
  }

  private static void way() {
    SeatStraps x = Due.carOf(0, 3, 2, 5, 0);
    due.is("23: step 0", x.way(7, 0), 1);
    due.is("23: step 1", x.way(7, 1), 10);
    due.is("23: step 2", x.way(7, 2), 22);
    due.is("23: others, step 0", x.way(28, 0), 21);
    due.is("23: others, step 1", x.way(28, 1), 30);
    due.is("23: others, step 2", x.way(28, 2), 42);
    x.seat(2, 2, 1);
    due.is("23: BABY, step 0", x.way(7, 0), 1);
    due.is("23: BABY where it is turned, step 1", x.way(7, 1), 12);
    due.is("23: BABY, step 2", x.way(7, 2), 20);
    x.seat(1, 2, 1);
    x.seat(2, 2, 0);
    due.is("23: BABY in the middle, step 0", x.way(7, 0), 11);
    due.is("23: BABY in the middle, step 1", x.way(7, 1), 0);
    due.is("23: BABY in the middle, step 2", x.way(7, 2), 22);
    due.is("23: step 3", x.way(7, 3), Due.BEYOND);
    due.is("23: step -1", x.way(7, -1), Due.BEYOND);
    due.is("23: step and SIZE", x.way(3, 3), Due.BEYOND);
    due.is("23: set", x.way(35, 0), Due.BEYOND);
    due.is("23: below 0", x.way(-1, 0), Due.BEYOND);
    due.is("23: two", x.way(3, 0), Due.SIZE);
    due.is("23: four", x.way(15, 2), Due.SIZE);
    x.click(4, 0);
    due.is("23: anybody sits", x.way(7, 0), Due.STATE);
    due.is("23: SIZE is asked first", x.way(1, 0), Due.SIZE);
  }

  private static void kind() {
    SeatStraps x = Due.carOf(0);
    due.is("24: BIG and SELF alike", x.kind(0, 0), 2);
    x.set(0, 2, 7);
    due.is("24: SELF in a good mood", x.kind(0, 0), 5);
    x.set(0, 2, 6);
    due.is("24: and not", x.kind(0, 2), 2);
    due.is("24: nothing changes", x.of(0, 0), 0);
    due.is("24: seat 3", x.kind(0, 3), Due.BEYOND);
    due.is("24: seat -1", x.kind(0, -1), Due.BEYOND);
    due.is("24: child 1", x.kind(1, 0), Due.BEYOND);
    due.is("24: child -1", x.kind(-1, 0), Due.BEYOND);
  }

  private static void bribes() {
    SeatStraps x = Due.carOf(0, 1);
    due.is("25: sits nowhere", x.bribes(0, 1), Due.STATE);
    x.click(0, 0);
    due.is("25: none are needed", x.bribes(0, 17), 0);
    due.is("25: one is", x.bribes(0, 18), 1);
    due.is("25: one is enough", x.bribes(0, 26), 1);
    due.is("25: two are needed", x.bribes(0, 27), 2);
    due.is("25: two are enough", x.bribes(0, 29), 2);
    due.is("25: no number is", x.bribes(0, 30), Due.NONE);
    due.is("25: nothing changes", x.of(0, 2) * 10 + x.seatOf(0, 1), 50);
    x.set(0, 2, 0);
    due.is("25: three are needed", x.bribes(0, 29), 3);
    due.is("25: n 0", x.bribes(0, 0), Due.BEYOND);
    due.is("25: n 61", x.bribes(0, 61), Due.BEYOND);
    due.is("25: n MIN", x.bribes(0, Due.MIN), Due.BEYOND);
    due.is("25: n and STATE", x.bribes(1, 61), Due.BEYOND);
    due.is("25: child 2", x.bribes(2, 1), Due.BEYOND);
    due.is("25: child -1", x.bribes(-1, 1), Due.BEYOND);
    due.is("25: n 60", x.bribes(0, 60), Due.NONE);
    due.is("25: NONE is counted", x.status(3), 2);
  }

  private static void coat() {
    SeatStraps x = Due.carOf(0, 4);
    due.is("26: no coat, no rain", x.coat(0, 0), 1000);
    x.set(0, 3, 1);
    due.is("26: a coat", x.coat(0, 0), 1004);
    x.rain(9);
    due.is("26: a coat and rain", x.coat(0, 1), 995);
    due.is("26: rain alone", x.coat(1, 2), 991);
    x.set(1, 3, 1);
    x.set(1, 2, 0);
    due.is("26: a HOWLER's coat", x.coat(1, 2), 995);
    due.is("26: nothing changes", x.of(0, 3), 1);
    due.is("26: seat 3", x.coat(0, 3), Due.BEYOND);
    due.is("26: seat -1", x.coat(0, -1), Due.BEYOND);
    due.is("26: child 2", x.coat(2, 0), Due.BEYOND);
    due.is("26: child -1", x.coat(-1, 0), Due.BEYOND);
  }

  private static void mood() {
    SeatStraps x = Due.carOf(0, 1);
    due.is("27: sits nowhere", x.mood(0, 1), Due.STATE);
    x.click(0, 0);
    due.is("27: 8 minutes", x.mood(0, 8), 0);
    due.is("27: 9 minutes", x.mood(0, 9), 3);
    due.is("27: 17 minutes", x.mood(0, 17), 5);
    due.is("27: 18 minutes", x.mood(0, 18), 6);
    due.is("27: 29 minutes", x.mood(0, 29), 9);
    due.is("27: 30 minutes", x.mood(0, 30), Due.NONE);
    due.is("27: 60 minutes", x.mood(0, 60), Due.NONE);
    due.is("27: nothing changes", x.of(0, 2), 5);
    due.is("27: n 0", x.mood(0, 0), Due.BEYOND);
    due.is("27: n 61", x.mood(0, 61), Due.BEYOND);
    due.is("27: n and STATE", x.mood(1, 0), Due.BEYOND);
    due.is("27: child 2", x.mood(2, 1), Due.BEYOND);
    due.is("27: child -1", x.mood(-1, 1), Due.BEYOND);
  }

  private static void worst() {
    SeatStraps x = Due.carOf(0, 0, 1, 0);
    due.is("28: nobody sits", x.worst(0), Due.NONE);
    due.is("28: BEYOND is asked first", x.worst(61), Due.BEYOND);
    due.is("28: n -1", x.worst(-1), Due.BEYOND);
    x.set(3, 2, 0);
    x.click(1, 0);
    due.is("28: the one that sits", x.worst(0), 1);
    x.click(0, 1);
    due.is("28: of several the least", x.worst(5), 0);
    x.click(2, 2);
    due.is("28: now all alike", x.worst(0), 0);
    due.is("28: ARCHER on 1 minute", x.worst(1), 2);
    due.is("28: all at 0", x.worst(60), 0);
    x.set(0, 2, 9);
    x.set(1, 2, 9);
    due.is("28: one that got out on the way", x.worst(20), 2);
    due.is("28: by then it had", x.out(2) < 20 ? 1 : 0, 1);
    due.is("28: nothing changes", x.now(3), 7);
    due.is("28: n MAX", x.worst(Due.MAX), Due.BEYOND);
    SeatStraps y = Due.carOfAllKinds();
    y.set(5, 2, 9);
    y.click(5, 1);
    due.is("28: the last one, in the best mood", y.worst(0), 5);
  }
}
