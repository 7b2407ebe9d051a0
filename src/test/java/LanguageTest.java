import java.lang.reflect.Field;
import java.lang.reflect.Method;
import java.lang.reflect.Modifier;
import java.nio.file.Files;
import java.nio.file.Path;
import java.util.ArrayList;
import java.util.Arrays;
import java.util.List;
import java.util.Set;
import java.util.TreeSet;
import java.util.regex.Matcher;
import java.util.regex.Pattern;

/** Those rules of LANGUAGE.md that can be looked at by a program. */
final class LanguageTest {
  private static final String SOURCE = "src/main/java/SeatStraps.java";
  private static final String[] RULED_OUT = {
    "\\bthrow\\b", "\\bthrows\\b", "\\btry\\b", "\\bcatch\\b", "\\bfinally\\b", "\\bsynchronized\\b",
    "\\bassert\\b", "\\bpackage\\b", "\\bimport\\b", "\\bprotected\\b", "->", "::", "Exact\\(",
    "\\bwhile\\s*\\(\\s*true", "for\\s*\\(\\s*;\\s*;", "static\\s*\\{", "\\bvar\\b", "\\bSystem\\.(?!arraycopy)",
    "\\bequals\\(", "\\bhashCode\\b", "\\btoString\\b", "\\[\\]\\[\\]\\[\\]", "\\bObject\\b"};

  private static final Due due = new Due("LanguageTest");

  public static void main(String[] args) throws Exception {
    for (Class<?> c : classes()) {
      membersOf(c);
    }
    String code = withoutComments(Files.readString(Path.of(SOURCE)));
    for (String rule : RULED_OUT) {
      due.is("'" + rule + "' in the source", Pattern.compile(rule).matcher(code).find() ? 1 : 0, 0);
    }
    lengths(code);
    due.is("signs above 127", code.chars().filter(c -> c > 127).count(), 0);
    due.end();
  }

  private static List<Class<?>> classes() {
    List<Class<?>> all = new ArrayList<>(Arrays.asList(SeatStraps.class.getDeclaredClasses()));
    due.is("at most some twelve classes", all.size() <= 11 ? 1 : 0, 1);
    for (Class<?> c : all) {
      due.is(c + " is static", Modifier.isStatic(c.getModifiers()) ? 1 : 0, 1);
      due.is(c + " is public or protected", c.getModifiers() & (Modifier.PUBLIC | Modifier.PROTECTED), 0);
    }
    all.add(SeatStraps.class);
    return all;
  }

  private static void membersOf(Class<?> c) {
    Set<String> names = new TreeSet<>();
    for (Method m : SeatStraps.class.getMethods()) {
      if (m.getDeclaringClass() == SeatStraps.class) {
        names.add(m.getName());
      }
    }
    for (Method m : c.getDeclaredMethods()) {
      boolean ofTheFace = c == SeatStraps.class && Modifier.isPublic(m.getModifiers());
      due.is(m + " has a name of the face", !ofTheFace && names.contains(m.getName()) ? 1 : 0, 0);
      due.is(m + " has at most seven parameters", m.getParameterCount() <= 7 ? 1 : 0, 1);
    }
    int fields = 0;
    for (Field f : c.getDeclaredFields()) {
      if (Modifier.isStatic(f.getModifiers())) {
        due.is(f + " is final", Modifier.isFinal(f.getModifiers()) ? 1 : 0, 1);
      } else {
        fields++;
      }
    }
    due.is(c + " has some twenty fields", fields <= 20 ? 1 : 0, 1);
  }

  private static String withoutComments(String source) {
    return source.replaceAll("(?s)/\\*.*?\\*/", "").replaceAll("//[^\\n]*", "");
  }

  private static void lengths(String code) {
    // A method ends with the brace that stands as deep as its first line.
    Matcher m = Pattern.compile("(?m)^( {2}| {4})[a-zA-Z].*\\) \\{\\n((?:(?!\\1\\}).*\\n)*)\\1\\}").matcher(code);
    int methods = 0;
    while (m.find()) {
      methods++;
      long lines = m.group(2).lines().count();
      due.is("a method of " + lines + " lines", lines <= 60 ? 1 : 0, 1);
    }
    due.is("methods were looked at", methods > 41 ? 1 : 0, 1);
  }
}
