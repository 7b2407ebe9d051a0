import java.io.IOException;
import java.nio.file.Files;
import java.nio.file.Path;
import java.util.ArrayList;
import java.util.List;
import java.util.regex.Matcher;
import java.util.regex.Pattern;

/** The sentences of the document, so that a test can name the one that it is of. */
final class Document {
  /** Stands for the section "Terms" where a promise's number is asked for. */
  static final int TERMS = 0;

  private static final Path PLACE = Path.of("../shared/DOC.md");
  // A sentence ends with one point: two of them stand for more numbers.
  private static final Pattern BETWEEN_SENTENCES = Pattern.compile("(?<=[^.]\\.|[^.]\\.\\)) (?=[A-Z(0-9])");

  private final String text;

  Document() {
    try {
      text = Files.readString(PLACE);
    } catch (IOException e) {
      throw new IllegalStateException("the document isn't at " + PLACE, e);
    }
  }

  List<String> sentencesOf(int promise) {
    List<String> sentences = new ArrayList<>();
    for (String each : BETWEEN_SENTENCES.split(promise == TERMS ? terms() : promise(promise))) {
      String sentence = each.trim();
      // The numbers of the sections are no sentences.
      if (!sentence.matches("\\d?\\.?")) {
        sentences.add(sentence);
      }
    }
    return sentences;
  }

  /** The members of the public face, in the document's order, without "public" and ";". */
  List<String> face() {
    List<String> members = new ArrayList<>();
    int from = text.indexOf("public final class SeatStraps {");
    int to = text.indexOf("\n}", Math.max(0, from));
    if (from >= 0 && to > from) {
      Matcher m = Pattern.compile("\n    public ([^;]*);").matcher(text.substring(from, to));
      while (m.find()) {
        members.add(m.group(1));
      }
    }
    return members;
  }

  /** Heading by heading of the interface: itself, and then the calls behind it. */
  List<List<String>> headings() {
    List<List<String>> headings = new ArrayList<>();
    Matcher m = Pattern.compile("Ahead of the calls (.*) the interface says: (---- .*)\\.\n").matcher(text);
    while (m.find()) {
      List<String> heading = new ArrayList<>(List.of(m.group(2)));
      for (String call : m.group(1).split(", ")) {
        heading.add(call.replace("`", ""));
      }
      headings.add(heading);
    }
    return headings;
  }

  private String promise(int number) {
    Matcher m = Pattern.compile("## Promise " + number + ": [^\\n]*\\n\\n`[^`]*`: ([^\\n]*)\\n").matcher(text);
    return m.find() ? m.group(1) : "";
  }

  private String terms() {
    int from = text.indexOf("FINDINGS are");
    int to = text.indexOf("Ahead of the calls");
    return from < 0 || to < from ? "" : text.substring(from, to).replaceAll("```(text)?", "").replaceAll("\\s+", " ");
  }
}
