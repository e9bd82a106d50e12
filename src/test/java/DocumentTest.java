import java.io.IOException;
import java.nio.file.Files;
import java.nio.file.Path;
import java.util.TreeMap;
import java.util.regex.Matcher;
import java.util.regex.Pattern;
import java.util.stream.Stream;

/**
 * That the tests quote the document: each sentence that a test names stands in it, at that promise or in what is said
 * for all, and no words of 'Terms' or of a promise are left that no test names. And that the program writes the face
 * as the document does.
 */
public final class DocumentTest {
  private static final Path DOCUMENT = Path.of("../shared/DOC.md"), RULES = Path.of("../shared/LANGUAGE.md");
  private static final Path PROGRAM = Path.of("src/main/java/BeepNet.java");
  private static final Pattern NAMED = Pattern.compile("Due\\.(test|rule)\\(\\s*(\\d+), \"([^\"]*)\"\\);");
  private static final Pattern GROUP = Pattern.compile("Ahead of the calls (.*) the interface says: (.*)\\.");
  private static final Pattern METHOD = Pattern.compile("(?m)^    public \\w+ (\\w+)\\(");
  private static final int PROMISES = 27, GROUPS = 4;

  private final TreeMap<String, String> texts = new TreeMap<>();
  private final TreeMap<String, boolean[]> named = new TreeMap<>();

  public static void main(String[] args) throws IOException {
    DocumentTest t = new DocumentTest();
    t.readDocument();
    String rules = plain(Files.readString(RULES));
    String tests = sources();
    Due.about("the sentences that tests name");
    Matcher m = NAMED.matcher(tests);
    int quotes = 0;
    while (m.find()) {
      quotes++;
      boolean stands = m.group(1).equals("rule") ? rules.contains(m.group(3)) : t.mark(m.group(2), m.group(3));
      Due.holds("of " + m.group(1) + " " + m.group(2) + " it stands there: \"" + m.group(3) + "\"", stands);
    }
    Due.holds("tests name sentences", quotes > PROMISES);
    Due.about("the words of the document");
    for (String section : t.texts.keySet()) {
      Due.holds(section + ": no test names \"" + t.unnamed(section) + "\"", t.unnamed(section).isEmpty());
    }
    face(Files.readString(DOCUMENT), Files.readString(PROGRAM));
    groups(Files.readString(DOCUMENT), Files.readString(PROGRAM));
    Due.end();
  }

  private static void face(String document, String program) {
    Due.about("the public face, line by line, in the document's order");
    int at = 0;
    for (String line : between(document, "public final class BeepNet {", "\n}", false).split("\n")) {
      String written = line.contains("(") ? line.replace(";", " {") : line;
      int found = program.indexOf("\n" + written + "\n", at);
      Due.holds(written, found >= at);
      at = Math.max(at, found);
    }
  }

  private static void groups(String document, String program) {
    Due.about("what the interface says ahead of calls");
    int groups = 0;
    Matcher m = GROUP.matcher(document);
    while (m.find()) {
      groups++;
      String heading = "    // " + m.group(2) + "\n";
      Due.holds("it says " + m.group(2), program.contains(heading));
      String[] parts = program.split(heading);
      String behind = parts[parts.length - 1].split("    // ---- ")[0];
      Due.holds(m.group(2) + ": " + m.group(1), calls(behind).equals(m.group(1)));
    }
    Due.is("groups", groups, GROUPS);
  }

  private static String calls(String program) {
    StringBuilder all = new StringBuilder();
    Matcher m = METHOD.matcher(program);
    while (m.find()) {
      all.append(all.length() == 0 ? "`" : ", `").append(m.group(1)).append("`");
    }
    return all.toString();
  }

  private static String sources() throws IOException {
    StringBuilder all = new StringBuilder();
    try (Stream<Path> files = Files.list(Path.of("src/test/java"))) {
      for (Path file : files.sorted().toList()) {
        all.append(Files.readString(file));
      }
    }
    return all.toString();
  }

  /** Fences, headings of sections and line ends are no words of a sentence. */
  private static String plain(String text) {
    return text.replace("```text", " ").replace("```", " ").replaceAll("=+ [1-4] ", " ").replaceAll("\\s+", " ").trim();
  }

  private void readDocument() throws IOException {
    String document = Files.readString(DOCUMENT);
    add("What it is", between(document, "An object is used for", ";", true));
    add("Terms", between(document, "Numbers go from 0 on.", "Ahead of the calls", false));
    for (int p = 1; p <= PROMISES; p++) {
      String section = between(document, "## Promise " + p + ":", "\n## ", false);
      add("" + p, section.substring(section.indexOf("`: ") + 3));
    }
  }

  private static String between(String text, String from, String to, boolean withTo) {
    int start = text.indexOf(from);
    int end = text.indexOf(to, start);
    return text.substring(start, withTo ? end + to.length() : end);
  }

  private void add(String section, String text) {
    texts.put(section, plain(text));
    named.put(section, new boolean[texts.get(section).length()]);
  }

  /** Whether a promise, or what is said for all, has the sentence; its words are named then. */
  private boolean mark(String promise, String sentence) {
    String[] sections = {promise, "Terms", "What it is"};
    for (String section : sections) {
      int at = texts.getOrDefault(section, "").indexOf(sentence);
      if (at >= 0) {
        for (int i = at; i < at + sentence.length(); i++) {
          named.get(section)[i] = true;
        }
        return true;
      }
    }
    return false;
  }

  private String unnamed(String section) {
    StringBuilder left = new StringBuilder();
    String text = texts.get(section);
    for (int i = 0; i < text.length(); i++) {
      left.append(named.get(section)[i] ? ' ' : text.charAt(i));
    }
    return left.toString().replaceAll("\\s+", " ").trim();
  }
}
