import java.io.IOException;
import java.io.UncheckedIOException;
import java.nio.file.Files;
import java.nio.file.Path;
import java.util.ArrayList;
import java.util.List;
import java.util.regex.Matcher;
import java.util.regex.Pattern;

/** ../shared/DOC.md in sections: 0 is all ahead of the promises, 1 .. 37 are the promises. */
final class Document {
  static final int PROMISES = 37;
  private static final Path FILE = Path.of("../shared/DOC.md");
  private static final Pattern REFUSAL = Pattern.compile("(?<!\\()-[12346]\\b");
  private static final Pattern METHOD = Pattern.compile("public ((?:int|long) \\w+\\([^()]*\\));");

  private final String[] sections = new String[PROMISES + 1];

  Document() {
    String whole = read();
    int from = 0;
    for (int promise = 1; promise <= PROMISES; promise++) {
      int to = whole.indexOf("## Promise " + promise + ":");
      if (to < from) throw new IllegalStateException("no promise " + promise + " in " + FILE);
      sections[promise - 1] = whole.substring(from, to).replaceAll("\\s+", " ");
      from = to;
    }
    int end = whole.indexOf("## Not promised", from);
    sections[PROMISES] = whole.substring(from, end).replaceAll("\\s+", " ");
  }

  private static String read() {
    try {
      return Files.readString(FILE);
    } catch (IOException e) {
      throw new UncheckedIOException(e);
    }
  }

  /** The methods of the public face in their order, as "int bites(int shape, int cell)". */
  List<String> face() {
    List<String> face = new ArrayList<>();
    Matcher found = METHOD.matcher(sections[0]);
    while (found.find()) face.add(found.group(1));
    return face;
  }

  boolean says(int promise, String words) {
    return sections[promise].contains(words);
  }

  /** The refusals of a promise in the order in which it tells them. */
  List<Integer> refusals(int promise) {
    List<Integer> told = new ArrayList<>();
    Matcher found = REFUSAL.matcher(sections[promise]);
    while (found.find()) told.add(Integer.parseInt(found.group()));
    return told;
  }
}
