/** What every test of the project uses: says which answer is not the one that is due, and counts these. */
final class Due {
  static final int NONE = -1000000, BAD = -1000001, STATE = -1000002, FULL = -1000003;
  static final int NULL = -1000011, PLACE = -1000012, KIND = -1000013, SIZE = -1000014, STORE = -1000015;

  private static int wrong = 0;
  private static int asked = 0;

  private Due() {
  }

  static void is(String call, long got, long want) {
    asked++;
    if (got != want) {
      wrong++;
      if (wrong <= 50) {
        System.out.println(call + " answered " + got + ", due is " + want);
      }
    }
  }

  static void holds(String what, boolean so) {
    is(what, so ? 1 : 0, 1);
  }

  static void end() {
    System.out.println(asked + " answers, " + wrong + " not as due");
    if (wrong != 0) {
      System.exit(1);
    }
  }

  /** A net of so many posts with the pairs told, two numbers each. */
  static BeepNet net(int posts, int... pairs) {
    BeepNet x = new BeepNet();
    for (int p = 0; p < posts; p++) {
      x.post();
    }
    for (int i = 0; i + 1 < pairs.length; i += 2) {
      x.join(pairs[i], pairs[i + 1]);
    }
    return x;
  }

  static BeepNet chain(int posts) {
    BeepNet x = net(posts);
    for (int p = 1; p < posts; p++) {
      x.join(p - 1, p);
    }
    return x;
  }

  /** Brings a text to the tape, eight bytes a call; the answer is that of the last call. */
  static int feed(BeepNet x, String text) {
    int answer = 0;
    for (int at = 0; at < text.length(); at += 8) {
      int n = Math.min(8, text.length() - at);
      long w = 0;
      for (int i = 0; i < n; i++) {
        w = w << 8 | text.charAt(at + i);
      }
      answer = x.feed(w, n);
    }
    return answer;
  }

  static int schedule(BeepNet x, String text) {
    feed(x, text);
    return x.schedule();
  }

  /**
   * The lowest eight bits of an item, by picks: in a family of all single posts but one, and the item,
   * that one is picked if the item has it. Wants 8 posts; uses sheet 7 and sets status() to 0.
   */
  static int bits(BeepNet x, int sheet, int lane, int i) {
    int bits = 0;
    for (int p = 0; p < 8; p++) {
      x.sheet(7, lane, 8);
      for (int q = 0; q < 8; q++) {
        x.set(7, q, q == p ? 0 : 1 << q);
      }
      x.copy(sheet, i, 7, p, 1);
      int others = x.picks(7, 0, 8, 1, 0);
      bits |= others == 1 ? 1 << p : 0;
    }
    x.drop(7);
    return bits;
  }

  /** All that can be seen without a change, but status() and the items of sheets. */
  static String seen(BeepNet x) {
    StringBuilder all = new StringBuilder();
    for (int what = 0; what < 8; what++) {
      all.append(x.count(what)).append(' ');
    }
    for (int p = 0; p < 8; p++) {
      all.append(x.told(p, 1)).append(' ').append(x.kind(p)).append(' ');
    }
    for (int i = 0; i < 20; i++) {
      all.append(x.round(i)).append(' ').append(x.trace(i)).append(' ');
    }
    return all.append(x.fault()).toString();
  }
}
