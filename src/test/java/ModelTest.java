import java.lang.reflect.Method;
import java.util.Arrays;

/** Every promise at once: runs of drawn calls, each answered by the class as by the model of the document. */
public final class ModelTest {
  private static final int CALLS_MOST = 512, RUNS = 240;
  /**
   * Each call, with the greatest number that is right for each argument (p: a post, s: a set of posts). A call told
   * more than once comes more often.
   */
  private static final String[] CALLS = {
    "sheet 7 2 40", "sheet 1 1 6", "set 1 6 255", "set 7 40 255", "set 1 5 255", "copy 1 6 1 6 6", "copy 1 2 1 2 2",
    "copy 7 40 7 40 40", "drop 7", "post", "join p p", "join p p", "part p p", "far p p", "told p 3", "hears 1 s",
    "spreads 1 s s", "feed 0 8", "schedule", "text", "text", "fault", "round 20", "round 3", "run 1 p 60", "run 1 p 4",
    "jammed 1 p 5", "picks 1 2 6 4 1", "picks 1 0 3 3 1", "picks 7 40 40 4 1", "kind p", "as p 4", "ask p 1", "trace 16",
    "trace 4", "count 7", "status", "status",
  };
  private static final String[] PIECES = {
    "round ", "round", " 0", " 1", " 2 3", " 4", " 7", ";", "all;", "twice", "\n", "#", " 00", " 000", "alls",
  };
  private static int seed = 4711;

  private final BeepNet x = new BeepNet();
  private final Model model = new Model();
  private final int run;
  private final int postsMost;
  private int calls = 0;

  private ModelTest(int run) {
    this.run = run;
    // the model's searches go through all sets, so runs with searches have fewer posts
    postsMost = run % 4 == 0 ? 9 : 2 + drawn(4);
  }

  public static void main(String[] args) throws Exception {
    Due.test(1, "An object is used for at most 512 calls after it has been made;");
    for (int run = 0; run < RUNS; run++) {
      new ModelTest(run).compare();
    }
    Due.end();
  }

  private void compare() throws Exception {
    String[] all = Arrays.copyOf(CALLS, CALLS.length + 1);
    String[] searches = {"post", "least 1 s 1", "draws 1 p 7", "least 1 s 1"};
    all[CALLS.length] = searches[run % 4];
    for (int p = drawn(postsMost); p > 0; p--) {
      call("post");
    }
    while (calls < CALLS_MOST) {
      String[] parts = all[drawn(all.length)].split(" ");
      if (parts[0].equals("text")) {
        feedText();
      } else if (parts[0].equals("feed")) {
        feedPiece();
      } else if (!parts[0].equals("post") || model.count(1) < postsMost) {
        call(parts[0], arguments(parts));
      }
    }
  }

  private void call(String name, Object... arguments) throws Exception {
    if (calls < CALLS_MOST) {
      calls++;
      String told = "run " + run + ", call " + calls + ": " + name + Arrays.toString(arguments);
      Due.is(told, answer(x, name, arguments), answer(model, name, arguments));
    }
  }

  private Object[] arguments(String[] parts) {
    Object[] arguments = new Object[parts.length - 1];
    int posts = model.count(1);
    for (int i = 0; i < arguments.length; i++) {
      String most = parts[i + 1];
      arguments[i] = argument(most.equals("p") ? Math.max(0, posts - 1)
          : most.equals("s") ? (1 << posts) - 1 : Integer.parseInt(most));
    }
    return arguments;
  }

  private static int argument(int most) {
    int[] odd = {-1, most + 1, most, 0, Due.LEAST, Due.GREATEST, 2 * most + 1, -most - 1};
    return drawn(15) == 0 ? odd[drawn(odd.length)] : drawn(most + 1);
  }

  private void feedPiece() throws Exception {
    String piece = PIECES[drawn(PIECES.length)];
    call("feed", word(piece), drawn(10) == 0 ? argument(8) : piece.length());
  }

  // Bytes above those of the text do not come, whatever they are.
  private static long word(String bytes) {
    long w = drawn(256) - 128L;
    for (int i = 0; i < bytes.length(); i++) {
      w = w << 8 | bytes.charAt(i);
    }
    return w;
  }

  private void feedText() throws Exception {
    if (drawn(3) > 0) {
      call("schedule");
    }
    StringBuilder text = new StringBuilder();
    int most = drawn(8) == 0 ? 24 : 5;
    for (int r = drawn(most); r >= 0; r--) {
      text.append(roundText(model.count(1)));
    }
    if (drawn(3) == 0) {
      text.setCharAt(drawn(text.length()), "0129;; \naz#".charAt(drawn(11)));
    }
    if (drawn(6) == 0) {
      text.setLength(drawn(text.length()));
    }
    for (int at = 0; at < text.length(); at += 8) {
      String bytes = text.substring(at, Math.min(text.length(), at + 8));
      call("feed", word(bytes), bytes.length());
    }
    call("schedule");
  }

  private static String roundText(int posts) {
    if (drawn(4) == 0) {
      return "all;";
    }
    if (drawn(3) == 0) {
      return drawn(2) == 0 ? "twice;" : "twice ;\n";
    }
    StringBuilder text = new StringBuilder("round");
    int few = posts == 0 ? 0 : drawn(1 << posts);
    for (int p = 0; p < posts; p++) {
      text.append((few >> p & 1) == 0 ? "" : " " + p);
    }
    return text.append(";").toString();
  }

  private static long answer(Object of, String name, Object[] arguments) throws Exception {
    for (Method m : of.getClass().getMethods()) {
      if (m.getName().equals(name) && m.getDeclaringClass() == of.getClass()) {
        return ((Number) m.invoke(of, arguments)).longValue();
      }
    }
    throw new IllegalStateException("no call " + name);
  }

  private static int drawn(int below) {
    seed = seed * 1103515245 + 12345;
    return (seed >>> 8) % below;
  }
}
