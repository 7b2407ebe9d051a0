import java.util.ArrayList;
import java.util.List;

/** Every call with all combinations of chosen numbers, right and wrong ones, on six cars, as the model has it. */
final class ArgumentsTest {
  private static final long[] MANY = {Due.MIN, -1, 0, 1, 2, 3, 4, 5, 6, 7, 8, 9, 10, 16, 35, 40, 41, 56, 60, 61, 63, 64, 99, 100, Due.MAX};
  private static final long[] SOME = {Due.MIN, -1, 0, 1, 2, 3, 4, 5, 6, 8, 10, 40, 41, 60, 64, 100, Due.MAX};
  private static final long[] FEW = {Due.MIN, -1, 0, 1, 2, 3, 4, Due.MAX};

  private static final String ALL_KINDS = "child(0) child(1) child(2) child(3) child(4) child(5) ";
  private static final String THINGS = "seat(0,0,2) seat(1,1,3) seat(2,2,1) rain(4) set(2,1,90) set(4,2,2) set(5,2,7) set(0,3,1) image() ";
  private static final String SHEETS = "sheet(0,8,3) write(0,1,9) sheet(1,8,4) write(1,3,-1) sheet(2,16,2) sheet(3,64,0) ";
  private static final String[] CARS = {
    "",
    "child(4) child(0) child(3)",
    ALL_KINDS + THINGS,
    ALL_KINDS + THINGS + "click(4,1) click(5,2) drive(1)",
    ALL_KINDS + THINGS + SHEETS + "click(1,0) click(3,1) click(4,2) drive(2) bribe(3) book(0,1)",
    ALL_KINDS + "click(0,0) click(1,1) click(2,2) drive(60) " + SHEETS + "tear() feed(0x62616279,4)"};

  private static final List<Told> LOOKS = calls(
      "now(0) now(1) now(2) now(3) now(4) now(5) count(0) count(1) count(2) count(3) status(-1)");

  private static final Due due = new Due("ArgumentsTest");

  public static void main(String[] args) {
    for (String car : CARS) {
      List<Told> made = calls(car);
      for (String member : new Document().face()) {
        int parameters = member.contains("()") ? 0 : member.split(",").length;
        if (!member.startsWith("SeatStraps")) {
          String name = member.substring(member.indexOf(' ') + 1, member.indexOf('('));
          combine(made, name, new long[parameters], 0);
        }
      }
    }
    due.end();
  }

  private static List<Told> calls(String text) {
    List<Told> calls = new ArrayList<>();
    for (String each : text.split(" ")) {
      if (!each.isEmpty()) {
        calls.add(Told.from(each));
      }
    }
    return calls;
  }

  private static void combine(List<Told> made, String name, long[] numbers, int known) {
    if (known == numbers.length) {
      ask(made, new Told(name, numbers.clone()));
      return;
    }
    for (long number : numbers.length < 3 ? MANY : numbers.length < 5 ? SOME : FEW) {
      numbers[known] = number;
      combine(made, name, numbers, known + 1);
    }
  }

  private static void ask(List<Told> made, Told call) {
    SeatStraps x = new SeatStraps();
    Model m = new Model();
    for (Told each : made) {
      due.is(() -> made + " at " + each, each.on(x), each.on(m));
    }
    due.is(() -> made + ", " + call, call.on(x), call.on(m));
    for (Told look : LOOKS) {
      due.is(() -> made + ", " + call + ", " + look, look.on(x), look.on(m));
    }
  }
}
