import java.io.IOException;
import java.nio.file.Files;
import java.nio.file.Path;
import java.util.Set;
import java.util.TreeSet;
import java.util.regex.Matcher;
import java.util.regex.Pattern;

/** The calls that README.md shows answer what stands behind them, and each call of the face is shown. */
final class ReadmeTest {
  private static final String NEW_OBJECT = "SeatStraps x = new SeatStraps();";
  private static final Pattern CALL = Pattern.compile("x\\.(\\w+\\([^)]*\\)); +// (-?\\d+)(:.*)?");

  private static final Due due = new Due("ReadmeTest");
  private static final Set<String> shown = new TreeSet<>();

  public static void main(String[] args) throws IOException {
    Matcher m = Pattern.compile("(?s)```java\n(.*?)```").matcher(Files.readString(Path.of("README.md")));
    while (m.find()) {
      run(m.group(1).split("\n"));
    }
    for (String member : new Document().face()) {
      String name = member.substring(member.indexOf(' ') + 1, member.indexOf('('));
      boolean isShown = member.equals("SeatStraps()") || shown.contains(name);
      due.is(name + " is shown", isShown ? 1 : 0, 1);
    }
    due.end();
  }

  private static void run(String[] lines) {
    due.is(lines[0] + " makes the object", lines[0].equals(NEW_OBJECT) ? 1 : 0, 1);
    SeatStraps x = new SeatStraps();
    for (int i = 1; i < lines.length; i++) {
      Matcher m = CALL.matcher(lines[i]);
      boolean isCall = m.matches();
      due.is(lines[i] + " is a call with its answer", isCall ? 1 : 0, 1);
      if (isCall) {
        Told call = Told.from(m.group(1));
        shown.add(call.name);
        due.is(lines[i], call.on(x), Long.parseLong(m.group(2)));
      }
    }
  }
}
