import java.io.IOException;
import java.lang.reflect.Field;
import java.lang.reflect.Member;
import java.lang.reflect.Method;
import java.lang.reflect.Modifier;
import java.nio.file.Files;
import java.nio.file.Path;
import java.util.Arrays;
import java.util.List;
import java.util.Set;
import java.util.TreeSet;
import java.util.stream.Collectors;

/** The section "The public face", and the headings that the document sets ahead of the calls. */
final class FaceTest {
  private static final Path SOURCE = Path.of("src/main/java/SeatStraps.java");
  private static final int MEMBERS = 42;

  private static final Due due = new Due("FaceTest");
  private static final Document document = new Document();

  public static void main(String[] args) throws IOException {
    members();
    nothingElse();
    headings(Files.readString(SOURCE));
    due.end();
  }

  private static void members() {
    Set<String> there = new TreeSet<>();
    for (Method m : SeatStraps.class.getDeclaredMethods()) {
      if (!Modifier.isPrivate(m.getModifiers())) {
        there.add(m.getReturnType() + " " + m.getName() + types(m.getParameterTypes()));
      }
    }
    Arrays.stream(SeatStraps.class.getDeclaredConstructors())
        .forEach(c -> there.add(c.getName() + types(c.getParameterTypes())));
    Set<String> asked = new TreeSet<>();
    for (String each : document.face()) {
      // Only the types of the parameters are seen from outside.
      asked.add(each.replaceAll("(int|long) \\w+(?=[,)])", "$1").replace(", ", ","));
    }
    due.is("members of the document's face", asked.size(), MEMBERS);
    due.is("the face is " + there + ", due is " + asked, there.equals(asked) ? 1 : 0, 1);
  }

  private static String types(Class<?>[] types) {
    return Arrays.stream(types).map(Class::getName).collect(Collectors.joining(",", "(", ")"));
  }

  private static void nothingElse() {
    due.is("public and final", SeatStraps.class.getModifiers(), Modifier.PUBLIC | Modifier.FINAL);
    for (Method m : SeatStraps.class.getDeclaredMethods()) {
      if (!Modifier.isPrivate(m.getModifiers())) {
        onlyPublic(m);
      }
    }
    onlyPublic(SeatStraps.class.getDeclaredConstructors()[0]);
    for (Field f : SeatStraps.class.getDeclaredFields()) {
      due.is(f + " is private", Modifier.isPrivate(f.getModifiers()) ? 1 : 0, 1);
    }
  }

  private static void onlyPublic(Member m) {
    due.is(m + " is public and no more", m.getModifiers(), Modifier.PUBLIC);
  }

  /** Each heading stands ahead of its calls, and no other heading between them. */
  private static void headings(String source) {
    due.is("headings of the document", document.headings().size(), 7);
    for (List<String> heading : document.headings()) {
      int from = source.indexOf("  // " + heading.get(0) + "\n");
      due.is(heading.get(0) + " stands in the source", from >= 0 ? 1 : 0, 1);
      int to = source.indexOf("\n  // ----", from + 1);
      int at = from;
      for (String call : heading.subList(1, heading.size())) {
        int found = source.indexOf(" " + call + "(", at);
        boolean isDeclared = found > at && source.substring(0, found).matches("(?s).*\\n  public (int|long)");
        due.is(call + " stands behind " + heading.get(0), isDeclared && found < to ? 1 : 0, 1);
        at = Math.max(at, found);
      }
    }
  }
}
