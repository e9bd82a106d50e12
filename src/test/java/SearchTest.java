import java.util.ArrayDeque;
import java.util.Arrays;

/** Promises 18 to 20, sentence by sentence, and against searches that go plainly through every way, on many nets. */
public final class SearchTest {
  private static final String[] TEXTS = {
    "all;", "round 0;round 1;round 2;round 3;", "round 0 2;round 1 3;", "all;round 1;", "round;all;twice;round 0;",
    "round 3;round 2;round 1;round 0;", "round 0 1;round 2 3;round 0 3;all;", "round 1 2;",
  };
  private static int seed = 12345;

  private final BeepNet x;
  private final int posts;
  private final int[] near;

  public static void main(String[] args) {
    least();
    leastRefused();
    fewestRounds();
    firstSet();
    jammed();
    jammedRefused();
    jammer();
    howeverItSpoils();
    notAfterSixty();
    draws();
    drawsRefused();
    drawnRounds();
    ofAllCases();
    Due.end();
  }

  private SearchTest(int posts) {
    this.posts = posts;
    x = Due.net(posts);
    near = new int[posts];
    int dense = 1 + drawn(4);
    for (int a = 0; a < posts; a++) {
      for (int b = a + 1; b < posts; b++) {
        if (drawn(5) < dense) {
          x.join(a, b);
          near[a] |= 1 << b;
          near[b] |= 1 << a;
        }
      }
    }
  }

  private static int drawn(int below) {
    seed = seed * 1103515245 + 12345;
    return (seed >>> 8) % below;
  }

  private int after(int hearing, int knows, int sounds) {
    int then = knows;
    for (int p = 0; p < posts; p++) {
      int telling = Integer.bitCount(near[p] & knows & sounds);
      if ((knows >> p & 1) == 0 && (hearing == 0 ? telling >= 1 : telling == 1)) {
        then |= 1 << p;
      }
    }
    return then;
  }

  private int reach(int from) {
    int reached = from;
    for (int steps = 0; steps < posts; steps++) {
      for (int p = 0; p < posts; p++) {
        reached |= (reached >> p & 1) == 1 ? near[p] : 0;
      }
    }
    return reached;
  }

  private int[] plainFewest(int hearing, int from) {
    int[] rounds = new int[256];
    Arrays.fill(rounds, -1);
    ArrayDeque<Integer> open = new ArrayDeque<>();
    open.add(from);
    rounds[from] = 0;
    while (!open.isEmpty()) {
      int knows = open.remove();
      for (int sounds = 0; sounds < 1 << posts; sounds++) {
        int then = after(hearing, knows, sounds);
        if (rounds[then] < 0) {
          rounds[then] = rounds[knows] + 1;
          open.add(then);
        }
      }
    }
    return rounds;
  }

  private static void least() {
    Due.test(18, "LEAST (what = 0), its first SET (1; 0, if LEAST is 0).");
    BeepNet x = Due.net(8, 0, 1);
    Due.is("one round", x.least(0, 1, 0), 1);
    Due.is("its first set", x.least(0, 1, 1), 1);
    for (int hearing = 0; hearing < 2; hearing++) {
      int[] done = {3, 4, 128, 255, 252};
      for (int knows : done) {
        Due.is("least(" + hearing + ", " + knows + ", 0)", x.least(hearing, knows, 0), 0);
        Due.is("least(" + hearing + ", " + knows + ", 1)", x.least(hearing, knows, 1), 0);
      }
    }
    Due.is("one post", Due.net(1).least(1, 1, 0), 0);
    Due.is("one post", Due.net(1).least(1, 1, 1), 0);
  }

  private static void leastRefused() {
    Due.test(18, "BAD: HEARING, a set that is empty or has others than POSTS, what.");
    BeepNet x = Due.chain(3);
    int[][] wrong = {
      {-1, 1, 0}, {2, 1, 0}, {Due.LEAST, 1, 0}, {Due.GREATEST, 1, 0}, {0, 0, 0}, {1, 0, 1}, {0, 8, 0}, {0, 9, 0},
      {0, -1, 0}, {0, 256, 0}, {0, Due.LEAST, 0}, {0, Due.GREATEST, 0}, {0, 1, -1}, {0, 1, 2}, {0, 1, Due.LEAST},
      {0, 1, Due.GREATEST},
    };
    for (int[] w : wrong) {
      Due.is("least(" + w[0] + ", " + w[1] + ", " + w[2] + ")", x.least(w[0], w[1], w[2]), Due.BAD);
    }
    Due.is("all posts", x.least(0, 7, 0), 0);
    Due.is("an empty schedule is no matter", x.least(0, 1, 0), 2);
    Due.is("256 of eight", Due.net(8).least(0, 256, 0), Due.BAD);
    Due.is("255 of eight", Due.net(8).least(0, 255, 0), 0);
    Due.is("no posts, an empty set", new BeepNet().least(0, 0, 0), Due.BAD);
    Due.is("no posts", new BeepNet().least(0, 1, 0), Due.BAD);
  }

  private static void fewestRounds() {
    Due.test(18, "LEAST from a set that KNOWS: the fewest ROUNDS behind which all POSTS that can be come to from it KNOW, whichever sets sound;");
    BeepNet chain = Due.chain(8);
    for (int hearing = 0; hearing < 2; hearing++) {
      for (int p = 0; p < 8; p++) {
        Due.is("from post " + p, chain.least(hearing, 1 << p, 0), Math.max(p, 7 - p));
      }
      Due.is("from both ends", chain.least(hearing, 129, 0), 3);
    }
    chain.part(3, 4);
    Due.is("those of another part need not know", chain.least(0, 1, 0), 3);
    Due.is("both parts, each from its end", chain.least(0, 129, 0), 3);
    // by talk the two that know must not sound at once for post 2, and not one alone for 3 and 4
    BeepNet two = Due.net(5, 0, 2, 1, 2, 0, 3, 1, 4);
    Due.is("beeps", two.least(0, 3, 0), 1);
    Due.is("talk", two.least(1, 3, 0), 2);
    for (int net = 0; net < 170; net++) {
      SearchTest n = new SearchTest(net < 150 ? 4 + drawn(2) : 8);
      for (int hearing = 0; hearing < 2; hearing++) {
        int knows = 1 + drawn((1 << n.posts) - 1);
        int fewest = n.plainFewest(hearing, knows)[n.reach(knows)];
        Due.is("net " + net + ", least(" + hearing + ", " + knows + ", 0)", n.x.least(hearing, knows, 0), fewest);
      }
    }
  }

  private static void firstSet() {
    Due.test(18, "its first SET: the least set (as a number) of those that may sound in the first of these ROUNDS.");
    BeepNet two = Due.net(5, 0, 2, 1, 2, 0, 3, 1, 4);
    Due.is("beeps: both", two.least(0, 3, 1), 3);
    Due.is("talk: one, then the other", two.least(1, 3, 1), 1);
    Due.is("beeps: from the second end", two.least(0, 16, 1), 16);
    BeepNet chain = Due.chain(8);
    Due.is("both ends", chain.least(1, 129, 1), 129);
    Due.is("neither has time to wait", chain.least(1, 1 + 32, 1), 1 + 32);
    Due.is("one that is not needed is left out", chain.least(1, 1 + 16, 1), 16);
    Due.is("one that may wait is left out", chain.least(1, 1 + 64, 1), 1);
    for (int net = 0; net < 170; net++) {
      SearchTest n = new SearchTest(net < 150 ? 4 + drawn(2) : 8);
      for (int hearing = 0; hearing < 2; hearing++) {
        int knows = 1 + drawn((1 << n.posts) - 1);
        int goal = n.reach(knows);
        int fewest = n.plainFewest(hearing, knows)[goal];
        int first = 0;
        for (int sounds = 0; fewest > 0 && first == 0; sounds++) {
          int then = n.after(hearing, knows, sounds);
          first = n.plainFewest(hearing, then)[goal] == fewest - 1 ? sounds : 0;
        }
        Due.is("net " + net + ", least(" + hearing + ", " + knows + ", 1)", n.x.least(hearing, knows, 1), first);
      }
    }
  }

  private static void jammed() {
    Due.test(19, "JAMMED.");
    BeepNet x = Due.chain(3);
    Due.schedule(x, "all;");
    for (int spoilt = 0; spoilt <= 5; spoilt++) {
      Due.is("beeps, each spoilt round is one more", x.jammed(0, 0, spoilt), 2 + spoilt);
      Due.is("talk, each spoilt round is one more", x.jammed(1, 0, spoilt), 2 + spoilt);
      Due.is("from the middle", x.jammed(1, 1, spoilt), 1 + spoilt);
    }
    x.part(0, 1);
    Due.is("alone: none is needed", x.jammed(0, 0, 5), 0);
    Due.is("what sounds is no matter to the one alone", Due.schedule(x, "round;"), 1);
    Due.is("alone", x.jammed(0, 0, 0), 0);
  }

  private static void jammedRefused() {
    Due.test(19, "BAD: HEARING, POST, spoilt; STATE: the SCHEDULE is empty.");
    BeepNet x = Due.chain(3);
    Due.is("empty", x.jammed(0, 0, 0), Due.STATE);
    Due.is("empty, alone", Due.net(1).jammed(0, 0, 5), Due.STATE);
    int[][] wrong = {
      {-1, 0, 0}, {2, 0, 0}, {Due.LEAST, 0, 0}, {Due.GREATEST, 0, 0}, {0, -1, 0}, {0, 3, 0}, {0, Due.LEAST, 0},
      {0, Due.GREATEST, 0}, {0, 0, -1}, {0, 0, 6}, {0, 0, Due.LEAST}, {0, 0, Due.GREATEST},
    };
    for (int[] w : wrong) {
      Due.is("ahead of STATE: jammed(" + w[0] + ", " + w[1] + ", " + w[2] + ")", x.jammed(w[0], w[1], w[2]), Due.BAD);
    }
    Due.schedule(x, "all;");
    for (int[] w : wrong) {
      Due.is("jammed(" + w[0] + ", " + w[1] + ", " + w[2] + ")", x.jammed(w[0], w[1], w[2]), Due.BAD);
    }
    Due.schedule(x, "#");
    Due.is("a fault does not empty it", x.jammed(0, 0, 0), 2);
    x.schedule();
    Due.is("empty again", x.jammed(0, 0, 0), Due.STATE);
  }

  private static void jammer() {
    Due.test(19, "A JAMMER spoils so many ROUNDS (0 to 5), those it likes (in them none HEARS):");
    BeepNet x = Due.chain(4);
    Due.schedule(x, "round 0;round 1;round 2;");
    Due.is("spoilt -1", x.jammed(0, 0, -1), Due.BAD);
    // each round that counts comes again three rounds later
    for (int spoilt = 0; spoilt <= 5; spoilt++) {
      Due.is("spoilt " + spoilt, x.jammed(0, 0, spoilt), 3 + 3 * spoilt);
    }
    Due.is("spoilt 6", x.jammed(0, 0, 6), Due.BAD);
    // a spoilt round would help word on by talk: the jammer likes to spoil none
    BeepNet ring = Due.net(4, 0, 1, 1, 2, 2, 3, 3, 0);
    Due.schedule(ring, "all;");
    Due.is("two drown each other", ring.jammed(1, 0, 0), Due.NONE);
    Due.is("two drown each other, spoilt or not", ring.jammed(1, 0, 5), Due.NONE);
    Due.is("beeps", ring.jammed(0, 0, 5), 7);
  }

  private static void howeverItSpoils() {
    Due.test(19, "JAMMED: the fewest ROUNDS of the SCHEDULE, over and over, after which all that can be come to KNOW, however it spoils them;");
    for (int net = 0; net < 150; net++) {
      SearchTest n = new SearchTest(4 + drawn(2));
      String text = TEXTS[drawn(TEXTS.length)];
      Due.schedule(n.x, text);
      for (int hearing = 0; hearing < 2; hearing++) {
        for (int spoilt = 0; spoilt < 3; spoilt++) {
          int post = drawn(n.posts);
          int worst = n.plainWorst(hearing, post, spoilt);
          String call = "net " + net + ", jammed(" + hearing + ", " + post + ", " + spoilt + ") by " + text;
          Due.is(call, n.x.jammed(hearing, post, spoilt), worst > 60 ? Due.NONE : worst);
        }
      }
    }
  }

  // Every choice of up to two rounds of the first 60 that are spoilt; round 60 stands for none.
  private int plainWorst(int hearing, int post, int spoilt) {
    int rounds = x.count(3);
    int[] sounds = new int[rounds];
    for (int r = 0; r < rounds; r++) {
      sounds[r] = x.round(r);
    }
    int goal = reach(1 << post);
    int worst = 0;
    for (int one = 60; one >= (spoilt > 0 ? 0 : 60); one--) {
      for (int two = 60; two >= (spoilt > 1 ? 0 : 60); two--) {
        int knows = 1 << post;
        int r = 0;
        for (; r <= 60 && knows != goal; r++) {
          knows = r == one || r == two ? knows : after(hearing, knows, sounds[r % rounds]);
        }
        worst = Math.max(worst, r);
      }
    }
    return worst;
  }

  private static void notAfterSixty() {
    Due.test(19, "NONE: there is a way in which that is not so after 60.");
    // word from 0 to 1 in the 20th round of each twenty
    BeepNet x = Due.chain(2);
    Due.schedule(x, "round;" + "twice;".repeat(18) + "round 0;");
    Due.is("the 20th", x.jammed(0, 0, 0), 20);
    Due.is("the 40th", x.jammed(0, 0, 1), 40);
    Due.is("the 60th", x.jammed(0, 0, 2), 60);
    for (int spoilt = 3; spoilt <= 5; spoilt++) {
      Due.is("not in 60, spoilt " + spoilt, x.jammed(0, 0, spoilt), Due.NONE);
    }
    Due.schedule(x, "round 0;round;" + "twice;".repeat(18));
    Due.is("the 41st", x.jammed(1, 0, 2), 41);
    Due.is("the 61st is too late", x.jammed(1, 0, 3), Due.NONE);
    Due.schedule(x, "round 1;");
    Due.is("never told", x.jammed(0, 0, 0), Due.NONE);
    Due.is("told by the other", x.jammed(0, 1, 0), 1);
  }

  private static void draws() {
    Due.test(20, "DRAWS.");
    BeepNet x = Due.chain(3);
    Due.is("no rounds, untold", x.draws(0, 0, 0), 0);
    Due.is("one round is too few", x.draws(0, 0, 1), 0);
    // 0 sounds in the first, 1 in the second; the rest of six as they like
    Due.is("two rounds", x.draws(0, 0, 2), 16);
    Due.is("two rounds, talk", x.draws(1, 0, 2), 16);
    Due.is("from the middle", x.draws(1, 1, 1), 4);
  }

  private static void drawsRefused() {
    Due.test(20, "BAD as a long: HEARING, POST, R.");
    BeepNet x = Due.chain(3);
    int[][] wrong = {
      {-1, 0, 0}, {2, 0, 0}, {Due.LEAST, 0, 0}, {Due.GREATEST, 0, 0}, {0, -1, 0}, {0, 3, 0}, {0, Due.LEAST, 0},
      {0, Due.GREATEST, 0}, {0, 0, -1}, {0, 0, 8}, {0, 0, Due.LEAST}, {0, 0, Due.GREATEST},
    };
    for (int[] w : wrong) {
      Due.is("draws(" + w[0] + ", " + w[1] + ", " + w[2] + ")", x.draws(w[0], w[1], w[2]), -1000001L);
    }
    Due.is("an empty schedule is no matter", x.draws(0, 1, 1), 4);
  }

  private static void drawnRounds() {
    Due.test(20, "DRAWS: in each of R ROUNDS (0 to 7) each POST sounds in one of two like cases, by itself:");
    BeepNet alone = Due.net(8);
    BeepNet pair = Due.net(2, 0, 1);
    for (int rounds = 0; rounds <= 7; rounds++) {
      Due.is("all cases, R " + rounds, alone.draws(1, 0, rounds), 1L << 8 * rounds);
      // those are lost in which 0 never sounds
      Due.is("of two, R " + rounds, pair.draws(0, 0, rounds), (1L << 2 * rounds) - (1L << rounds));
    }
    Due.is("R -1", alone.draws(0, 0, -1), Due.BAD);
    Due.is("R 8", alone.draws(0, 0, 8), Due.BAD);
    alone.join(0, 7);
    Due.is("of eight, R 7", alone.draws(0, 0, 7), (1L << 56) - (1L << 49));
    Due.is("of eight, talk, R 7", alone.draws(1, 7, 7), (1L << 56) - (1L << 49));
  }

  private static void ofAllCases() {
    Due.test(20, "of 2 to the power (POSTS times R) like cases, in how many all that can be come to KNOW behind them.");
    for (int net = 0; net < 150; net++) {
      SearchTest n = new SearchTest(4 + drawn(2));
      int post = drawn(n.posts);
      int goal = n.reach(1 << post);
      for (int hearing = 0; hearing < 2; hearing++) {
        for (int rounds = 0; rounds < 4; rounds++) {
          int good = 0;
          for (int all = 0; all < 1 << n.posts * rounds; all++) {
            int knows = 1 << post;
            for (int r = 0; r < rounds; r++) {
              knows = n.after(hearing, knows, all >> n.posts * r & (1 << n.posts) - 1);
            }
            good += knows == goal ? 1 : 0;
          }
          String call = "net " + net + ", draws(" + hearing + ", " + post + ", " + rounds + ")";
          Due.is(call, n.x.draws(hearing, post, rounds), good);
        }
      }
    }
  }
}
