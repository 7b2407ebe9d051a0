/** The sentences of "Terms" that tell the text of a car. */
final class TextTerms {
  private static final int TERMS = Document.TERMS;
  private final Edges edges;

  TextTerms(Edges edges) {
    this.edges = edges;
  }

  void test() {
    edges.sentence(TERMS, "THE TEXT of a CAR, from THE TAPE (bytes, at most 120).", this::tape);
    edges.sentence(TERMS, "TOKENS, each as long as can be: WORDS (letters a to z)", this::tokens);
    edges.sentence(TERMS, "TEXT: ITEM { ; ITEM }.", this::text);
    edges.sentence(TERMS, "ITEM: the name of a KIND", this::item);
    edges.sentence(TERMS, "FAULT: the place (from 0) of the first byte", this::fault);
  }

  /** So many items, where one child is already there. */
  private void items(String text, int many) {
    edges.is("'" + text + "'", Due.car(Due.carOf(0), text), many);
  }

  private void faultAt(String text, int place) {
    edges.is("'" + text + "'", Due.car(Due.carOf(0), text), -1 - place);
  }

  private void tape() {
    items("rain 1" + " ".repeat(114), 1);
    items("rain 1" + ";rain 2".repeat(16) + "  ", 17);
    items(" ".repeat(114) + "rain 1", 1);
    edges.refused("a 121st", () -> Cars.taped(120), x -> x.feed(0x20, 1), Due.FULL);
  }

  private void tokens() {
    items("seat1twists2crumbs3turned", 1);
    items("  seat  1  twists  2  crumbs  3  turned  ", 1);
    items("rain1;rain2", 2);
    items("rain 1 ; rain 2", 2);
    items("rain 009", 1);
    faultAt("rain 12", 5);
    faultAt("rain 1 2", 7);
    faultAt("ra in 1", 0);
    faultAt("rainrain 1", 0);
    faultAt("childcoat", 0);
    faultAt("rain 999", 5);
    faultAt("rain 1000", 5);
    faultAt("rain 4294967297", 5);
    faultAt("rain 18446744073709551617", 5);
    int[] no = {0, 9, 10, 13, 31, 33, ',', '-', '.', '/', ':', '<', '@', 'A', 'Z', '`', '{', 127, 128, 160, 225, 255};
    for (int b : no) {
      faultAt("rain 1" + (char) b, 6);
      faultAt((char) b + "rain 1", 0);
      faultAt("rain" + (char) b + "1", 4);
    }
  }

  private void text() {
    items("child", 1);
    items("child;child", 2);
    items("child;rain 1;seat 0", 3);
    faultAt("", 0);
    faultAt(";", 0);
    faultAt("child;", 6);
    faultAt("child;;child", 6);
    faultAt(";child", 0);
    faultAt("child child", 6);
    faultAt("rain 1 rain 1", 7);
    faultAt("seat 1 seat 2", 7);
  }

  private void number(String ahead, int most, String behind) {
    items(ahead + "0" + behind, 1);
    items(ahead + most + behind, 1);
    faultAt(ahead + (most + 1) + behind, ahead.length());
    faultAt(ahead + behind.trim(), ahead.length());
  }

  private void item() {
    String[] kinds = {"child", "archer", "big", "baby", "howler", "self"};
    for (int kind = 0; kind < 6; kind++) {
      SeatStraps x = Due.carOf(0);
      edges.is(kinds[kind], Due.car(x, kinds[kind] + " size 99 mood 9 coat"), 1);
      edges.is("its kind", x.of(1, 0), kind);
      edges.is("all of it", x.of(1, 1) * 100 + x.of(1, 2) * 10 + x.of(1, 3), 9991);
      SeatStraps y = Due.carOf(0);
      edges.is(kinds[kind], Due.car(y, kinds[kind]), 1);
      edges.is("all as at first", y.of(1, 1) * 100 + y.of(1, 2) * 10 + y.of(1, 3), 3050);
    }
    number("baby size ", 99, " mood 3");
    number("baby mood ", 9, " coat");
    number("seat ", 2, " turned");
    number("seat 0 twists ", 5, " crumbs 1");
    number("seat 0 crumbs ", 9, " turned");
    number("rain ", 9, "");
    faultAt("baby mood 1 size 1", 12);
    faultAt("baby coat size 1", 10);
    faultAt("baby size 1 size 1", 12);
    faultAt("seat 0 crumbs 1 twists 1", 16);
    faultAt("seat 0 turned crumbs 1", 14);
    faultAt("seat 0 coat", 7);
    faultAt("baby turned", 5);
    faultAt("rain 1 coat", 7);
    SeatStraps z = Due.carOf(0);
    z.seat(0, 2, 1);
    z.seat(1, 2, 1);
    Due.car(z, "seat 0;seat 1 turned");
    edges.is("turned then; else not", z.seatOf(0, 2) * 10 + z.seatOf(1, 2), 1);
  }

  private void fault() {
    faultAt("rain 10", 5);
    faultAt("  rain 10", 7);
    faultAt("snow 1", 0);
    faultAt("gain 1", 0);
    faultAt("rails 1", 0);
    faultAt("rai 1", 0);
    faultAt("seat 0 twist 1", 7);
    faultAt("baby boat", 5);
    faultAt("rain one", 5);
    faultAt("rain 1;snow 1", 7);
    faultAt("rain 1?", 6);
    faultAt("snow ?", 0);
    faultAt("7", 0);
    faultAt("rain 1;7", 7);
    faultAt("rain;", 4);
    faultAt("rain", 4);
    faultAt("rain  ", 6);
    faultAt("baby size", 9);
    faultAt("baby size 1 mood", 16);
    faultAt("seat", 4);
    faultAt("seat 0 twists", 13);
    faultAt("seat 0 twists 1 crumbs ", 23);
    faultAt("rain 1;", 7);
    faultAt("rain 1;   ", 10);
    faultAt(" ".repeat(120), 120);
    SeatStraps six = Due.carOf(0, 0, 0, 0, 0, 0);
    edges.is("a 7th", Due.car(six, "rain 1; self size 100"), -1 - 8);
    edges.is("a 7th, behind another fault", Due.car(six, "rain x; self"), -1 - 5);
    SeatStraps five = Due.carOf(0, 0, 0, 0, 0);
    edges.is("a 6th and a 7th", Due.car(five, "self mood 1; self"), -1 - 13);
    edges.is("neither came", five.count(0), 5);
  }
}
