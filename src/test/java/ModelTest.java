import java.util.Random;

/** All promises: long runs of drawn calls, told to the program and to the model alike. */
final class ModelTest {
  private static final int RUNS = 1500;
  private static final int CALLS = 512;
  private static final Due due = new Due("ModelTest");
  private static final String[] WORDS = {
    "child", "archer", "big", "baby", "howler", "self", "size", "mood", "coat", "seat", "twists",
    "crumbs", "turned", "rain", ";", "0", "1", "2", "5", "9", "10", "99", "100", "1000", "007", "x", "?"};

  private final Random random;
  private final SeatStraps x = new SeatStraps();
  private final Model m = new Model();
  private final boolean wild;

  private ModelTest(long seed) {
    random = new Random(seed);
    // Every third run draws wrong arguments more often, and so answers findings for the most part.
    wild = seed % 3 == 0;
  }

  public static void main(String[] args) {
    for (int run = 0; run < RUNS; run++) {
      ModelTest test = new ModelTest(run);
      for (int i = 0; i < CALLS; i++) {
        test.call(run, i);
      }
    }
    due.end();
  }

  /** A number from 0 to most, or, seldom, one that may not be. */
  private int n(int most) {
    if (random.nextInt(wild ? 8 : 60) == 0) {
      int[] odd = {-1, most + 1, most + 2, -2, Integer.MAX_VALUE, Integer.MIN_VALUE, 64, 1 << 20, -1000000001};
      return odd[random.nextInt(odd.length)];
    }
    return random.nextInt(most + 1);
  }

  private int kid() {
    return n(Math.max(0, m.w.kids.size() - 1));
  }

  private int set() {
    int set = 0;
    int all = Math.max(1, m.w.kids.size());
    for (int i = 0; i < 20 && Integer.bitCount(set) < 3; i++) {
      set |= 1 << random.nextInt(all);
    }
    return random.nextInt(8) == 0 ? n(63) : set;
  }

  private void call(int run, int i) {
    // Many children early on, so that there is something to be seen.
    int which = i < 4 ? 4 : random.nextInt(60);
    String name = "run " + run + ", call " + i + ", ";
    if (which < 20) {
      callOne(name, which);
    } else if (which < 40) {
      callTwo(name, which);
    } else {
      callMore(name, which);
    }
  }

  private void callOne(String name, int which) {
    int a = 0, b = 0, c = 0;
    switch (which) {
      case 0: case 1: a = n(2); b = n(2); c = n(b == 0 ? 5 : b == 1 ? 9 : 1);
        due.is(name + "seat(" + a + ", " + b + ", " + c + ")", x.seat(a, b, c), m.seat(a, b, c)); break;
      case 2: a = n(2); b = n(4); due.is(name + "seatOf", x.seatOf(a, b), m.seatOf(a, b)); break;
      case 3: a = n(9); due.is(name + "rain(" + a + ")", x.rain(a), m.rain(a)); break;
      case 4: a = n(5); due.is(name + "child(" + a + ")", x.child(a), m.child(a)); break;
      case 5: case 6: a = kid(); b = n(7); due.is(name + "of(" + a + ", " + b + ")", x.of(a, b), m.of(a, b)); break;
      case 7: case 8: case 9: a = kid(); b = 1 + n(3); c = n(b == 1 ? 99 : b == 3 ? 1 : 9);
        due.is(name + "set(" + a + ", " + b + ", " + c + ")", x.set(a, b, c), m.set(a, b, c)); break;
      case 10: a = kid(); b = n(5); due.is(name + "turn(" + a + ", " + b + ")", x.turn(a, b), m.turn(a, b)); break;
      case 11: a = kid(); b = n(5); due.is(name + "as(" + a + ", " + b + ")", x.as(a, b), m.as(a, b)); break;
      case 12: case 13: a = kid(); b = n(2); due.is(name + "seconds(" + a + ", " + b + ")", x.seconds(a, b), m.seconds(a, b)); break;
      case 14: a = kid(); b = n(2); due.is(name + "snug(" + a + ", " + b + ")", x.snug(a, b), m.snug(a, b)); break;
      default: a = kid(); b = n(2); due.is(name + "click(" + a + ", " + b + ")", x.click(a, b), m.click(a, b)); break;
    }
  }

  private void callTwo(String name, int which) {
    int a = 0, b = 0, c = 0;
    switch (which) {
      case 20: a = kid(); due.is(name + "letOut(" + a + ")", x.letOut(a), m.letOut(a)); break;
      case 21: a = kid(); due.is(name + "bribe(" + a + ")", x.bribe(a), m.bribe(a)); break;
      case 22: a = random.nextInt(10) == 0 ? n(60) : 1 + n(5); due.is(name + "drive(" + a + ")", x.drive(a), m.drive(a)); break;
      case 23: case 24: a = n(5); due.is(name + "now(" + a + ")", x.now(a), m.now(a)); break;
      case 25: case 26: a = kid(); b = n(60); c = n(1);
        due.is(name + "on(" + a + ", " + b + ", " + c + ")", x.on(a, b, c), m.on(a, b, c)); break;
      case 27: a = kid(); due.is(name + "out(" + a + ")", x.out(a), m.out(a)); break;
      case 28: due.is(name + "firstOut()", x.firstOut(), m.firstOut()); break;
      case 29: a = kid(); due.is(name + "quick(" + a + ")", x.quick(a), m.quick(a)); break;
      case 30: a = kid(); due.is(name + "safe(" + a + ")", x.safe(a), m.safe(a)); break;
      case 31: emptySeats(name); a = set(); due.is(name + "all(" + a + ")", x.all(a), m.all(a)); break;
      case 32: emptySeats(name); a = set(); b = n(2); due.is(name + "way(" + a + ", " + b + ")", x.way(a, b), m.way(a, b)); break;
      case 33: a = kid(); b = n(2); due.is(name + "kind(" + a + ", " + b + ")", x.kind(a, b), m.kind(a, b)); break;
      case 34: a = kid(); b = 1 + n(59); due.is(name + "bribes(" + a + ", " + b + ")", x.bribes(a, b), m.bribes(a, b)); break;
      case 35: a = kid(); b = n(2); due.is(name + "coat(" + a + ", " + b + ")", x.coat(a, b), m.coat(a, b)); break;
      case 36: a = kid(); b = 1 + n(30); due.is(name + "mood(" + a + ", " + b + ")", x.mood(a, b), m.mood(a, b)); break;
      case 37: a = n(60); due.is(name + "worst(" + a + ")", x.worst(a), m.worst(a)); break;
      default: text(name); break;
    }
  }

  private void callMore(String name, int which) {
    int a = n(3), b = 0, c = 0, d = 0, e = 0;
    switch (which) {
      case 40: b = random.nextInt(); c = 1 + n(3); due.is(name + "feed(" + b + ", " + c + ")", x.feed(b, c), m.feed(b, c)); break;
      case 41: due.is(name + "wipe()", x.wipe(), m.wipe()); break;
      case 42: due.is(name + "car()", x.car(), m.car()); break;
      case 43: case 44: b = new int[] {8, 16, 64, 8, 16, 64, 0, 32}[random.nextInt(8)]; c = n(40);
        due.is(name + "sheet(" + a + ", " + b + ", " + c + ")", x.sheet(a, b, c), m.sheet(a, b, c)); break;
      case 45: case 46: case 47: b = n(12); long v = random.nextBoolean() ? n(9) : random.nextLong();
        due.is(name + "write(" + a + ", " + b + ", " + v + ")", x.write(a, b, v), m.write(a, b, v)); break;
      case 48: case 49: b = n(20); c = n(3); d = n(20); e = n(20);
        due.is(name + "copy(" + a + ", " + b + ", " + c + ", " + d + ", " + e + ")", x.copy(a, b, c, d, e), m.copy(a, b, c, d, e)); break;
      case 50: due.is(name + "lays(" + a + ")", x.lays(a), m.lays(a)); break;
      case 51: b = kid(); due.is(name + "book(" + a + ", " + b + ")", x.book(a, b), m.book(a, b)); break;
      case 52: b = kid(); due.is(name + "book(" + a + ", " + b + ")", x.book(a, b), m.book(a, b));
        due.is(name + "read(" + a + ", " + b + ")", x.read(a, b), m.read(a, b)); break;
      case 53: b = kid(); due.is(name + "read(" + a + ", " + b + ")", x.read(a, b), m.read(a, b)); break;
      case 54: due.is(name + "image()", x.image(), m.image()); break;
      case 55: due.is(name + "undo()", x.undo(), m.undo()); break;
      case 56: if (random.nextInt(4) == 0) due.is(name + "tear()", x.tear(), m.tear()); break;
      case 57: b = n(3); due.is(name + "count(" + b + ")", x.count(b), m.count(b)); break;
      case 58: b = n(7) - 1; due.is(name + "status(" + b + ")", x.status(b), m.status(b)); break;
      default: lookAtAll(name); break;
    }
  }

  /** Mostly, as all() and way() have little to say otherwise. */
  private void emptySeats(String name) {
    if (random.nextInt(4) == 0) {
      return;
    }
    for (int c = 0; c < m.w.kids.size(); c++) {
      due.is(name + "letOut(" + c + ")", x.letOut(c), m.letOut(c));
    }
  }

  private void text(String name) {
    due.is(name + "wipe()", x.wipe(), m.wipe());
    String text = random.nextInt(3) == 0 ? drawnWords() : drawnItems();
    for (int i = 0; i < text.length(); i++) {
      due.is(name + "feed", x.feed(text.charAt(i), 1), m.feed(text.charAt(i), 1));
    }
    due.is(name + "car() of '" + text + "'", x.car(), m.car());
  }

  private String drawnWords() {
    StringBuilder text = new StringBuilder();
    for (int i = random.nextInt(12); i > 0; i--) {
      text.append(WORDS[random.nextInt(WORDS.length)]).append(random.nextInt(6) == 0 ? "" : " ");
    }
    return text.toString();
  }

  /** For the most part a text without a fault. */
  private String drawnItems() {
    StringBuilder text = new StringBuilder();
    for (int i = random.nextInt(4); i >= 0; i--) {
      int sort = random.nextInt(4);
      if (sort == 0) {
        text.append(WORDS[random.nextInt(6)]).append(maybe(" size ", 99)).append(maybe(" mood ", 9)).append(random.nextBoolean() ? " coat" : "");
      } else if (sort < 3) {
        text.append("seat ").append(random.nextInt(3)).append(maybe(" twists ", 5)).append(maybe("crumbs ", 9)).append(random.nextBoolean() ? "turned" : "");
      } else {
        text.append("rain ").append(n(9));
      }
      text.append(i > 0 || random.nextInt(20) == 0 ? ";" : "");
    }
    return text.toString();
  }

  private String maybe(String word, int most) {
    return random.nextBoolean() ? word + n(most) : "";
  }

  private void lookAtAll(String name) {
    for (int what = 0; what < 6; what++) {
      due.is(name + "now(" + what + ")", x.now(what), m.now(what));
    }
    for (int s = 0; s < 3; s++) {
      for (int what = 0; what < 5; what++) {
        due.is(name + "seatOf(" + s + ", " + what + ")", x.seatOf(s, what), m.seatOf(s, what));
      }
    }
    for (int c = 0; c < m.w.kids.size(); c++) {
      for (int what = 0; what < 8; what++) {
        due.is(name + "of(" + c + ", " + what + ")", x.of(c, what), m.of(c, what));
      }
    }
    for (int which = -1; which < 7; which++) {
      due.is(name + "status(" + which + ")", x.status(which), m.status(which));
    }
  }
}
