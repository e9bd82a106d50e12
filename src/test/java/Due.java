/** What every test of the project uses: says which answer is not the one that is due, and to which sentence. */
final class Due {
  static final int NONE = -1000000, BAD = -1000001, STATE = -1000002, FULL = -1000003;
  static final int NULL = -1000011, PLACE = -1000012, KIND = -1000013, SIZE = -1000014, STORE = -1000015;
  static final int LEAST = Integer.MIN_VALUE, GREATEST = Integer.MAX_VALUE;

  private static final int TOLD_MOST = 50;
  private static String test = "";
  private static int tests = 0;
  private static int askedInTest = 0;
  private static int asked = 0;
  private static int wrong = 0;

  private Due() {
  }

  /** Begins a test: the promise that it holds the class against, and the sentence of the document. */
  static void test(int promise, String sentence) {
    begin("promise " + promise + ", \"" + sentence + "\"");
  }

  /** Begins a test of a rule of LANGUAGE.md. */
  static void rule(int number, String sentence) {
    begin("rule " + number + ", \"" + sentence + "\"");
  }

  /** Begins a test of the tests themselves. */
  static void about(String what) {
    begin(what);
  }

  private static void begin(String name) {
    holdsSomething();
    test = name;
    tests++;
    askedInTest = 0;
  }

  private static void holdsSomething() {
    if (tests > 0 && askedInTest == 0) {
      wrong++;
      System.out.println(test + ": the test asks nothing");
    }
  }

  static void is(String call, long got, long want) {
    asked++;
    askedInTest++;
    if (got != want) {
      wrong++;
      if (wrong <= TOLD_MOST) {
        System.out.println(test + ": " + call + " answered " + got + ", due is " + want);
      }
    }
  }

  static void holds(String what, boolean so) {
    is(what, so ? 1 : 0, 1);
  }

  static void end() {
    holdsSomething();
    System.out.println(tests + " tests, " + asked + " answers, " + wrong + " not as due");
    if (wrong != 0 || tests == 0) {
      System.exit(1);
    }
  }

  /** A net of so many posts with the pairs told, two numbers each. */
  static BeepNet net(int posts, int... pairs) {
    BeepNet x = new BeepNet();
    for (int p = 0; p < posts; p++) {
      x.post();
    }
    for (int i = 0; i + 1 < pairs.length; i += 2) {
      x.join(pairs[i], pairs[i + 1]);
    }
    return x;
  }

  static BeepNet chain(int posts) {
    BeepNet x = net(posts);
    for (int p = 1; p < posts; p++) {
      x.join(p - 1, p);
    }
    return x;
  }

  /** Brings a text to the tape, eight bytes a call; the answer is that of the last call. */
  static int feed(BeepNet x, String text) {
    int answer = 0;
    for (int at = 0; at < text.length(); at += 8) {
      int n = Math.min(8, text.length() - at);
      long w = 0;
      for (int i = 0; i < n; i++) {
        w = w << 8 | text.charAt(at + i);
      }
      answer = x.feed(w, n);
    }
    return answer;
  }

  static int schedule(BeepNet x, String text) {
    feed(x, text);
    return x.schedule();
  }

  /** A text that has a fault of a number at a place. */
  static void faultAt(BeepNet x, String text, int place, int number) {
    String call = "'" + text.replace('\n', '/') + "'";
    is(call, schedule(x, text), -1000100 - place);
    is(call + " fault()", x.fault(), number);
  }

  /**
   * The lowest eight bits of an item, told by picks from single posts: each answer is one that is neither in
   * the item nor told yet. Wants 8 posts; uses sheet 7 and sets status() to 0; 22 calls at most.
   */
  static int bits(BeepNet x, int sheet, int lane, int i) {
    int without = 0;
    x.sheet(7, lane, 2);
    x.copy(sheet, i, 7, 0, 1);
    for (int told = 0; told <= 8; told++) {
      x.set(7, 1, without);
      int first = x.picks(7, 0, 2, 1, 1);
      if (first == NONE) {
        break;
      }
      without |= first;
    }
    x.drop(7);
    return 255 & ~without;
  }

  static void items(BeepNet x, int sheet, int lane, int... want) {
    for (int i = 0; i < want.length; i++) {
      is("sheet " + sheet + " of lane " + lane + ", item " + i, bits(x, sheet, lane, i), want[i]);
    }
  }
}
