import java.io.IOException;
import java.lang.reflect.Method;
import java.lang.reflect.Modifier;
import java.nio.file.Files;
import java.nio.file.Path;
import java.util.List;
import java.util.TreeMap;
import java.util.TreeSet;
import java.util.regex.Matcher;
import java.util.regex.Pattern;
import java.util.stream.Stream;

/** That README.md tells what is so: its example calls with their answers, its tables, its ways to run the tests. */
public final class ReadmeTest {
  private static final Path README = Path.of("README.md");
  private static final String MADE = "BeepNet x = new BeepNet();";
  private static final Pattern CALL =
      Pattern.compile("x\\.(\\w+)\\(([^()]*)\\); +// (-?\\d+|NONE|BAD|STATE|FULL)(: \\S.*)?");
  private static final Pattern CALL_ROW = Pattern.compile("\\| `(\\w+)\\(([^()]*)\\)` \\| \\S.* \\|");
  private static final Pattern NUMBER_ROW = Pattern.compile("\\| `([A-Z]+)` \\| (-\\d+) \\| \\S.* \\|");
  private static final int CALLS_MOST = 512;

  private final List<String> lines;
  private final TreeMap<String, Method> face = new TreeMap<>();
  private final TreeSet<String> shown = new TreeSet<>();
  private BeepNet made;
  private int calls;

  private ReadmeTest() throws IOException {
    lines = Files.readAllLines(README);
    for (Method m : BeepNet.class.getDeclaredMethods()) {
      if (Modifier.isPublic(m.getModifiers())) {
        face.put(m.getName(), m);
      }
    }
  }

  public static void main(String[] args) throws Exception {
    ReadmeTest t = new ReadmeTest();
    t.examples();
    t.tableOfCalls();
    t.tableOfRefusals();
    t.files();
    Due.end();
  }

  private void examples() throws Exception {
    Due.about("the example calls of README.md");
    String fence = "";
    for (String line : lines) {
      if (line.startsWith("```")) {
        fence = line.substring(3);
      } else if (fence.equals("java")) {
        example(line);
      } else {
        Due.holds("a call stands in a block of java: " + line, !line.startsWith("x."));
      }
    }
    Due.holds("each call of the face has an example: " + shown, shown.equals(face.keySet()));
  }

  private void example(String line) throws Exception {
    if (line.equals(MADE)) {
      made = new BeepNet();
      calls = 0;
      return;
    }
    Matcher m = CALL.matcher(line);
    boolean understood = m.matches() && face.containsKey(m.group(1)) && made != null;
    Due.holds("it is a call with its answer: " + line, understood);
    if (understood) {
      calls++;
      shown.add(m.group(1));
      Due.holds("an object has 512 calls at most", calls <= CALLS_MOST);
      Due.is(line, answer(face.get(m.group(1)), words(m.group(2))), told(m.group(3)));
    }
  }

  private static String[] words(String arguments) {
    return arguments.isEmpty() ? new String[0] : arguments.split(", ");
  }

  private long answer(Method call, String[] words) throws Exception {
    Class<?>[] types = call.getParameterTypes();
    Due.is(call.getName() + ": how many arguments", words.length, types.length);
    Object[] arguments = new Object[types.length];
    for (int i = 0; i < types.length; i++) {
      String word = i < words.length ? words[i] : "0";
      arguments[i] = types[i] == long.class ? (Object) literal(word) : (Object) Integer.decode(word);
    }
    return ((Number) call.invoke(made, arguments)).longValue();
  }

  private static long literal(String word) {
    return word.endsWith("L") ? Long.decode(word.substring(0, word.length() - 1)) : Integer.decode(word);
  }

  private static long told(String answer) throws Exception {
    return Character.isLetter(answer.charAt(0)) ? constant(answer) : Long.parseLong(answer);
  }

  private static int constant(String name) throws Exception {
    return BeepNet.class.getField(name).getInt(null);
  }

  private void tableOfCalls() {
    Due.about("the table of calls in README.md");
    TreeSet<String> rows = new TreeSet<>();
    for (String line : lines) {
      Matcher m = CALL_ROW.matcher(line);
      if (m.matches()) {
        Due.holds("told once, of the face: " + line, rows.add(m.group(1)) && face.containsKey(m.group(1)));
        Due.is(line, words(m.group(2)).length,
            face.containsKey(m.group(1)) ? face.get(m.group(1)).getParameterCount() : -1);
      }
    }
    Due.holds("each call of the face is told: " + rows, rows.equals(face.keySet()));
  }

  private void tableOfRefusals() throws Exception {
    Due.about("the table of refusals in README.md");
    TreeSet<String> rows = new TreeSet<>();
    for (String line : lines) {
      Matcher m = NUMBER_ROW.matcher(line);
      if (m.matches()) {
        rows.add(m.group(1));
        Due.is(line, constant(m.group(1)), Long.parseLong(m.group(2)));
      }
    }
    Due.holds("BAD, STATE and FULL are told: " + rows, rows.equals(new TreeSet<>(List.of("BAD", "STATE", "FULL"))));
    Due.holds("NONE is told", String.join("\n", lines).contains("`NONE` (" + BeepNet.NONE + ")"));
  }

  private void files() throws IOException {
    Due.about("the files that README.md names");
    String text = String.join("\n", lines);
    Due.holds("it says how to run the tests", lines.contains(".ci/run"));
    Due.holds(".ci/run can be run", Files.isExecutable(Path.of(".ci/run")));
    Due.holds("the program is there", Files.isRegularFile(Path.of("src/main/java/BeepNet.java")));
    try (Stream<Path> files = Files.list(Path.of("src/test/java"))) {
      for (Path file : files.sorted().toList()) {
        String name = file.getFileName().toString().replace(".java", "");
        Due.holds("it names " + name, text.contains("`" + name + "`"));
      }
    }
  }
}
