import java.util.ArrayList;
import java.util.List;

/** All that can be seen of an object from outside; the object is of no use afterwards. */
final class Seen {
  // Looking takes some 330 calls, which leaves enough of the 512 to make a car before.
  private static final long ALL_BITS = 0x7123456789abcdefL;

  final int[] status = new int[8];
  private final List<String> names = new ArrayList<>();
  private final List<Long> answers = new ArrayList<>();

  Seen(SeatStraps x) {
    for (int which = -1; which < 7; which++) {
      status[which + 1] = x.status(which);
    }
    seeCar(x, "");
    for (int s = 0; s < 4; s++) {
      seeSheet(x, s);
    }
    see("undo()", x.undo());
    seeCar(x, "kept: ");
    see("tear()", x.tear());
    see("car()", x.car());
    seeCar(x, "by the tape: ");
  }

  private void see(String name, long answer) {
    names.add(name);
    answers.add(answer);
  }

  private void seeCar(SeatStraps x, String when) {
    for (int what = 0; what < 6; what++) {
      see(when + "now(" + what + ")", x.now(what));
    }
    for (int what = 0; what < 4; what++) {
      see(when + "count(" + what + ")", x.count(what));
    }
    for (int seat = 0; seat < 3; seat++) {
      for (int what = 0; what < 5; what++) {
        see(when + "seatOf(" + seat + ", " + what + ")", x.seatOf(seat, what));
      }
    }
    int children = x.count(0);
    for (int child = 0; child < children; child++) {
      for (int what = 0; what < 8; what++) {
        see(when + "of(" + child + ", " + what + ")", x.of(child, what));
      }
    }
  }

  /** Each number is written twice: the first one shows what it was, the second one its bits. */
  private void seeSheet(SeatStraps x, int s) {
    for (int i = 0; i <= 40; i++) {
      long was = x.write(s, i, ALL_BITS);
      see("number " + i + " of sheet " + s, was);
      if (was == Due.MISSING || was == Due.BEYOND) {
        return;
      }
      see("bits of sheet " + s, x.write(s, i, was));
    }
  }

  /** The first thing that isn't as there, or nothing. */
  String differenceTo(Seen other) {
    if (!names.equals(other.names)) {
      return "other things are there";
    }
    for (int i = 0; i < names.size(); i++) {
      if (!answers.get(i).equals(other.answers.get(i))) {
        return names.get(i) + " is " + answers.get(i) + ", not " + other.answers.get(i);
      }
    }
    return "";
  }
}
