import java.util.Set;
import java.util.TreeSet;
import java.util.function.Supplier;

/** Tests of single sentences of the document: each names its own, and none may be left without one. */
final class Edges {
  interface Call {
    long of(SeatStraps x);
  }

  interface CallWith {
    long of(SeatStraps x, int v);
  }

  private final Due due;
  private final Document document = new Document();
  private final int firstPromise;
  private final int lastPromise;
  private final Set<String> tested = new TreeSet<>();
  private String sentence = "";

  Edges(String test, int firstPromise, int lastPromise) {
    this.due = new Due(test);
    this.firstPromise = firstPromise;
    this.lastPromise = lastPromise;
  }

  /** The test of the one sentence of a promise that begins so. */
  void sentence(int promise, String beginning, Runnable test) {
    sentence = promise + ": " + beginning;
    int found = 0;
    for (String each : document.sentencesOf(promise)) {
      if (each.startsWith(beginning)) {
        found++;
        due.is(sentence + " has one test", tested.add(promise + ": " + each) ? 1 : 0, 1);
      }
    }
    due.is(sentence + " stands in the document once", found, 1);
    int before = due.asked();
    test.run();
    due.is(sentence + " is asked for", due.asked() > before ? 1 : 0, 1);
  }

  void is(String what, long got, long want) {
    due.is(sentence + " " + what, got, want);
  }

  /** The call answers a finding, which is counted once, and nothing else changes. */
  void refused(String what, Supplier<SeatStraps> car, Call call, int finding) {
    SeatStraps x = car.get();
    is(what, call.of(x), finding);
    Seen with = new Seen(x);
    Seen without = new Seen(car.get());
    same(what + " changed that", with, without);
    for (int i = 0; i < 8; i++) {
      boolean counted = i == 0 || -1000000000 - i == finding;
      is(what + ", status(" + (i - 1) + ")", with.status[i], without.status[i] + (counted ? 1 : 0));
    }
  }

  /** The call answers just so, and nothing changes at all. */
  void still(String what, Supplier<SeatStraps> car, Call call, long answer) {
    SeatStraps x = car.get();
    is(what, call.of(x), answer);
    Seen with = new Seen(x);
    Seen without = new Seen(car.get());
    same(what + " changed that", with, without);
    for (int i = 0; i < 8; i++) {
      is(what + ", status(" + (i - 1) + ")", with.status[i], without.status[i]);
    }
  }

  private void same(String what, Seen got, Seen want) {
    String difference = got.differenceTo(want);
    is(what + " " + difference, difference.isEmpty() ? 1 : 0, 1);
  }

  /** BEYOND for all that is below the least or above the most, and for these two not. */
  void range(String what, Supplier<SeatStraps> car, int least, int most, CallWith call) {
    // Numbers whose lowest bits alone would do show an argument that is cut somewhere.
    int[] wrong = {least - 1, least - 2, Due.MIN, Due.MIN + least, most + 1, most + 2, most + 256, most + 65536, Due.MAX};
    for (int v : wrong) {
      refused(what + " " + v, car, x -> call.of(x, v), Due.BEYOND);
    }
    int[] right = {least, most};
    for (int v : right) {
      is(what + " " + v + " is BEYOND", call.of(car.get(), v) == Due.BEYOND ? 1 : 0, 0);
    }
  }

  void end() {
    for (int promise = firstPromise; promise <= lastPromise; promise++) {
      due.is("promise " + promise + " has sentences", document.sentencesOf(promise).isEmpty() ? 0 : 1, 1);
      for (String each : document.sentencesOf(promise)) {
        String name = promise + ": " + each;
        due.is("a test of " + name, tested.contains(name) ? 1 : 0, 1);
      }
    }
    due.end();
  }
}
