/** Promises 18 to 21 against searches that go plainly through every way, on many nets. */
public final class SearchTest {
  private static final String[] TEXTS = {
    "all;", "round 0;round 1;round 2;round 3;", "round 0 2;round 1 3;", "all;round 1;", "round;all;twice;round 0;",
    "round 3;round 2;round 1;round 0;", "round 0 1;round 2 3;round 0 3;all;", "round 1 2;",
  };
  private static int seed = 12345;

  public static void main(String[] args) {
    leastRefused();
    jammedRefused();
    jammedAtItsEdge();
    drawsRefused();
    for (int net = 0; net < 150; net++) {
      int posts = 4 + drawn(2);
      BeepNet x = drawnNet(posts);
      least(x, posts);
      jammed(x, posts);
      draws(x, posts);
      picks(x, posts);
    }
    for (int net = 0; net < 20; net++) {
      least(drawnNet(8), 8);
      picks(drawnNet(8), 8);
    }
    Due.end();
  }

  private static int drawn(int below) {
    seed = seed * 1103515245 + 12345;
    return (seed >>> 8) % below;
  }

  private static BeepNet drawnNet(int posts) {
    BeepNet x = Due.net(posts);
    int dense = 1 + drawn(4);
    for (int a = 0; a < posts; a++) {
      for (int b = a + 1; b < posts; b++) {
        if (drawn(5) < dense) {
          x.join(a, b);
        }
      }
    }
    return x;
  }

  // Counts sounding neighbours one by one, so as to share nothing with the program.
  private static int after(BeepNet x, int posts, int hearing, int knows, int sounds) {
    int then = knows;
    for (int p = 0; p < posts; p++) {
      int telling = Integer.bitCount(x.told(p, 1) & knows & sounds);
      if ((knows >> p & 1) == 0 && (hearing == 0 ? telling >= 1 : telling == 1)) {
        then |= 1 << p;
      }
    }
    return then;
  }

  private static int reach(BeepNet x, int posts, int from) {
    int reached = 0;
    for (int p = 0; p < posts; p++) {
      for (int q = 0; q < posts; q++) {
        if ((from >> p & 1) == 1 && x.far(p, q) >= 0) {
          reached |= 1 << q;
        }
      }
    }
    return reached;
  }

  private static int[] plainFewest(BeepNet x, int posts, int hearing, int from) {
    int[] rounds = new int[256];
    java.util.Arrays.fill(rounds, -1);
    java.util.ArrayDeque<Integer> open = new java.util.ArrayDeque<>();
    open.add(from);
    rounds[from] = 0;
    while (!open.isEmpty()) {
      int knows = open.remove();
      for (int sounds = 0; sounds < 1 << posts; sounds++) {
        int then = after(x, posts, hearing, knows, sounds);
        if (rounds[then] < 0) {
          rounds[then] = rounds[knows] + 1;
          open.add(then);
        }
      }
    }
    return rounds;
  }

  private static void least(BeepNet x, int posts) {
    for (int hearing = 0; hearing < 2; hearing++) {
      int knows = 1 + drawn((1 << posts) - 1);
      int goal = reach(x, posts, knows);
      int fewest = plainFewest(x, posts, hearing, knows)[goal];
      String call = "least(" + hearing + ", " + knows + ", ";
      Due.is(call + "0)", x.least(hearing, knows, 0), fewest);
      int first = 0;
      for (int sounds = 0; fewest > 0 && first == 0; sounds++) {
        int then = after(x, posts, hearing, knows, sounds);
        first = plainFewest(x, posts, hearing, then)[goal] == fewest - 1 ? sounds : 0;
      }
      Due.is(call + "1)", x.least(hearing, knows, 1), first);
    }
  }

  private static void jammed(BeepNet x, int posts) {
    String text = TEXTS[drawn(TEXTS.length)];
    int rounds = Due.schedule(x, text);
    for (int hearing = 0; hearing < 2; hearing++) {
      for (int spoilt = 0; spoilt < 3; spoilt++) {
        int post = drawn(posts);
        int worst = plainWorst(x, posts, rounds, hearing, post, spoilt);
        String call = "jammed(" + hearing + ", " + post + ", " + spoilt + ") by " + text;
        Due.is(call, x.jammed(hearing, post, spoilt), worst > 60 ? Due.NONE : worst);
      }
    }
  }

  // Every choice of up to two rounds of the first 60 that are spoilt.
  private static int plainWorst(BeepNet x, int posts, int rounds, int hearing, int post, int spoilt) {
    int goal = reach(x, posts, 1 << post);
    int[] then = new int[256 * rounds];
    for (int knows = 0; knows < 1 << posts; knows++) {
      for (int r = 0; r < rounds; r++) {
        then[knows * rounds + r] = after(x, posts, hearing, knows, x.round(r));
      }
    }
    int worst = 0;
    for (int one = 60; one >= (spoilt > 0 ? 0 : 60); one--) {
      for (int two = 60; two >= (spoilt > 1 ? 0 : 60); two--) {
        int knows = 1 << post;
        int r = 0;
        for (; r <= 60 && knows != goal; r++) {
          knows = r == one || r == two ? knows : then[knows * rounds + r % rounds];
        }
        worst = Math.max(worst, r);
      }
    }
    return worst;
  }

  private static void draws(BeepNet x, int posts) {
    int post = drawn(posts);
    int goal = reach(x, posts, 1 << post);
    for (int hearing = 0; hearing < 2; hearing++) {
      for (int rounds = 0; rounds < 4; rounds++) {
        int good = 0;
        for (int all = 0; all < 1 << posts * rounds; all++) {
          int knows = 1 << post;
          for (int r = 0; r < rounds; r++) {
            knows = x.spreads(hearing, knows, all >> posts * r & (1 << posts) - 1);
          }
          good += knows == goal ? 1 : 0;
        }
        Due.is("draws(" + hearing + ", " + post + ", " + rounds + ")", x.draws(hearing, post, rounds), good);
      }
    }
  }

  private static void picks(BeepNet x, int posts) {
    int n = 1 + drawn(8);
    int[] items = new int[n];
    x.sheet(0, 2, n);
    for (int i = 0; i < n; i++) {
      items[i] = drawn(1 << 12);
      x.set(0, i, items[i]);
    }
    for (int k = 1; k <= 4; k++) {
      int first = Due.NONE;
      for (int few = (1 << posts) - 1; few > 0; few--) {
        boolean picked = Integer.bitCount(few) > k;
        for (int item : items) {
          picked = picked || Integer.bitCount(item & few) == 1;
        }
        first = picked ? first : few;
      }
      Due.is("picks, k " + k, x.picks(0, 0, n, k, 1), first);
      Due.is("picks, k " + k, x.picks(0, 0, n, k, 0), first == Due.NONE ? 1 : 0);
    }
  }

  private static void leastRefused() {
    BeepNet x = Due.chain(3);
    Due.is("hearing 2", x.least(2, 1, 0), Due.BAD);
    Due.is("hearing -1", x.least(-1, 1, 0), Due.BAD);
    Due.is("none knows", x.least(0, 0, 0), Due.BAD);
    Due.is("knows 8", x.least(0, 8, 0), Due.BAD);
    Due.is("knows -1", x.least(0, -1, 0), Due.BAD);
    Due.is("what 2", x.least(0, 1, 2), Due.BAD);
    Due.is("what -1", x.least(0, 1, -1), Due.BAD);
    Due.is("an empty schedule is fine", x.least(0, 1, 0), 2);
    // two rows of neighbours: by talk the two that know must not sound at once
    BeepNet two = Due.net(5, 0, 2, 1, 2, 0, 3, 1, 4);
    Due.is("beeps", two.least(0, 3, 0), 1);
    Due.is("beeps, first set", two.least(0, 3, 1), 3);
    Due.is("talk", two.least(1, 3, 0), 2);
    Due.is("talk, first set", two.least(1, 3, 1), 1);
  }

  private static void jammedRefused() {
    BeepNet x = Due.chain(3);
    Due.is("empty", x.jammed(0, 0, 0), Due.STATE);
    Due.is("BAD ahead of STATE", x.jammed(0, 0, 6), Due.BAD);
    Due.schedule(x, "all;");
    Due.is("hearing 2", x.jammed(2, 0, 0), Due.BAD);
    Due.is("hearing -1", x.jammed(-1, 0, 0), Due.BAD);
    Due.is("post 3", x.jammed(0, 3, 0), Due.BAD);
    Due.is("post -1", x.jammed(0, -1, 0), Due.BAD);
    Due.is("spoilt 6", x.jammed(0, 0, 6), Due.BAD);
    Due.is("spoilt -1", x.jammed(0, 0, -1), Due.BAD);
    for (int spoilt = 0; spoilt <= 5; spoilt++) {
      Due.is("each spoilt round is one more", x.jammed(1, 0, spoilt), 2 + spoilt);
    }
    Due.schedule(x, "round 2;");
    Due.is("never told", x.jammed(0, 0, 0), Due.NONE);
    x.part(0, 1);
    Due.is("alone", x.jammed(0, 0, 5), 0);
  }

  private static void jammedAtItsEdge() {
    // word from 0 to 1 in the 20th round of each twenty
    BeepNet x = Due.chain(2);
    Due.is("twenty", Due.schedule(x, "round;" + "twice;".repeat(18) + "round 0;"), 20);
    Due.is("the 20th", x.jammed(0, 0, 0), 20);
    Due.is("the 40th", x.jammed(0, 0, 1), 40);
    Due.is("the 60th", x.jammed(0, 0, 2), 60);
    Due.is("not in 60", x.jammed(0, 0, 3), Due.NONE);
    Due.is("twenty", Due.schedule(x, "round 0;round;" + "twice;".repeat(18)), 20);
    Due.is("the 41st", x.jammed(0, 0, 2), 41);
    Due.is("the 61st is too late", x.jammed(0, 0, 3), Due.NONE);
    // by talk a spoilt round can help word on; the jammer need not spoil one
    BeepNet ring = Due.net(4, 0, 1, 1, 2, 2, 3, 3, 0);
    Due.schedule(ring, "all;");
    Due.is("two drown each other", ring.jammed(1, 0, 0), Due.NONE);
    Due.is("two drown each other", ring.jammed(1, 0, 5), Due.NONE);
    Due.is("beeps", ring.jammed(0, 0, 5), 7);
  }

  private static void drawsRefused() {
    BeepNet x = Due.chain(3);
    Due.is("hearing 2", x.draws(2, 0, 0), Due.BAD);
    Due.is("hearing -1", x.draws(-1, 0, 0), Due.BAD);
    Due.is("post 3", x.draws(0, 3, 0), Due.BAD);
    Due.is("post -1", x.draws(0, -1, 0), Due.BAD);
    Due.is("rounds 8", x.draws(0, 0, 8), Due.BAD);
    Due.is("rounds -1", x.draws(0, 0, -1), Due.BAD);
    Due.is("no rounds, untold", x.draws(0, 0, 0), 0);
    BeepNet alone = Due.net(8);
    Due.is("all cases", alone.draws(1, 0, 7), 1L << 56);
    Due.is("no rounds, alone", alone.draws(1, 0, 0), 1);
    alone.join(0, 7);
    Due.is("all but those in which 0 never sounds", alone.draws(0, 0, 7), (1L << 56) - (1L << 49));
  }
}
