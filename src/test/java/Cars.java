/** Cars to begin a test with; each takes fewer than 60 calls, but for the last two. */
final class Cars {
  private Cars() {
  }

  /** Six children, of each kind one, nobody sits; sheets, an image, bytes on the tape, a finding. */
  static SeatStraps waiting() {
    SeatStraps x = Due.carOfAllKinds();
    x.seat(0, 0, 2);
    x.seat(1, 1, 3);
    x.seat(2, 2, 1);
    x.rain(4);
    x.set(2, 1, 90);
    x.image();
    x.set(1, 4, 5);
    x.set(4, 2, 2);
    x.set(5, 2, 7);
    x.set(0, 3, 1);
    x.sheet(0, 8, 5);
    x.write(0, 1, 9);
    x.write(0, 4, -3);
    x.sheet(1, 16, 4);
    x.write(1, 0, 4);
    x.sheet(2, 64, 0);
    Due.feed(x, "rain 7");
    x.rain(-1);
    return x;
  }

  /** The same, but ARCHER 1, BABY 3 and HOWLER 4 sit in seats 0, 1, 2, two minutes on the way. */
  static SeatStraps busy() {
    SeatStraps x = waiting();
    x.click(1, 0);
    x.click(3, 1);
    x.click(4, 2);
    x.drive(2);
    x.bribe(3);
    return x;
  }

  /** The same, but only BIG 2 sits, in the middle. */
  static SeatStraps half() {
    SeatStraps x = waiting();
    x.click(2, 1);
    return x;
  }

  /** One child, and the last minute has come. */
  static SeatStraps late() {
    SeatStraps x = Due.carOf(0);
    for (int i = 0; i < 166; i++) {
      x.drive(60);
    }
    x.drive(39);
    return x;
  }

  /** The tape has so many bytes, all blanks, the rest is as in waiting(). */
  static SeatStraps taped(int bytes) {
    SeatStraps x = waiting();
    x.wipe();
    for (int i = 0; i < bytes / 4; i++) {
      x.feed(0x20202020, 4);
    }
    for (int i = 0; i < bytes % 4; i++) {
      x.feed(0x20, 1);
    }
    return x;
  }
}
