import java.util.function.Supplier;

/** Counts the answers that are not as due; every test of the project ends with end(). */
final class Due {
  static final int BEYOND = -1000000001;
  static final int FULL = -1000000002;
  static final int KIND = -1000000003;
  static final int NONE = -1000000004;
  static final int STATE = -1000000005;
  static final int MISSING = -1000000006;
  static final int SIZE = -1000000007;
  static final int MIN = Integer.MIN_VALUE;
  static final int MAX = Integer.MAX_VALUE;

  // Drawn runs that go astray once answer wrong for long, which nobody would read.
  private static final int MOST_SHOWN = 100;

  private final String test;
  private int asked = 0;
  private int wrong = 0;

  Due(String test) {
    this.test = test;
  }

  void is(String call, long got, long want) {
    is(() -> call, got, want);
  }

  /** For calls by the million, whose names are not worth making before one goes wrong. */
  void is(Supplier<String> call, long got, long want) {
    asked++;
    if (got != want) {
      wrong++;
      if (wrong <= MOST_SHOWN) {
        System.out.println(test + ": " + call.get() + " answered " + got + ", due is " + want);
      }
    }
  }

  int asked() {
    return asked;
  }

  void end() {
    System.out.println(test + ": " + asked + " answers, " + wrong + " not as due");
    if (wrong != 0) {
      System.exit(1);
    }
  }

  /** A car with one child of each kind, its number being its kind. */
  static SeatStraps carOfAllKinds() {
    SeatStraps x = new SeatStraps();
    for (int kind = 0; kind < 6; kind++) {
      x.child(kind);
    }
    return x;
  }

  /** A car with children of these kinds. */
  static SeatStraps carOf(int... kinds) {
    SeatStraps x = new SeatStraps();
    for (int kind : kinds) {
      x.child(kind);
    }
    return x;
  }

  static void feed(SeatStraps x, String text) {
    for (int i = 0; i < text.length(); i++) {
      x.feed(text.charAt(i), 1);
    }
  }

  /** The tape is emptied and fed with a text, which is then read. */
  static int car(SeatStraps x, String text) {
    x.wipe();
    feed(x, text);
    return x.car();
  }
}
