/** Promises 6 to 12, sentence by sentence: posts, neighbours, ways, and a round. */
public final class NetTest {
  private static final int[] WRONG = {-1, 8, 31, 32, 33, 256, Due.LEAST, Due.GREATEST};

  public static void main(String[] args) {
    post();
    postFull();
    eightAtMost();
    join();
    joinRefused();
    neighbours();
    part();
    partRefused();
    far();
    farRefused();
    fewestSteps();
    told();
    toldRefused();
    width();
    setsOfPosts();
    hears();
    hearsRefused();
    hearing();
    spreads();
    spreadsRefused();
    word();
    Due.end();
  }

  private static void post() {
    Due.test(6, "A POST: its number.");
    BeepNet x = new BeepNet();
    for (int p = 0; p < 8; p++) {
      Due.is("count(1)", x.count(1), p);
      Due.is("not there yet", x.kind(p), Due.BAD);
      Due.is("post()", x.post(), p);
      Due.is("there", x.kind(p), 4);
      Due.is("alone at first", x.told(p, 1), 0);
    }
    Due.is("another object's", new BeepNet().post(), 0);
  }

  private static void postFull() {
    Due.test(6, "FULL: 8.");
    BeepNet x = Due.net(7, 0, 6);
    Due.is("the eighth", x.post(), 7);
    x.join(7, 0);
    Due.is("the ninth", x.post(), Due.FULL);
    Due.is("the tenth", x.post(), Due.FULL);
    Due.is("eight", x.count(1), 8);
    Due.is("neighbours of 0", x.told(0, 1), 64 + 128);
    Due.is("no post 8", x.kind(8), Due.BAD);
  }

  private static void eightAtMost() {
    Due.test(6, "POSTS 0 .. 7 (8 at most);");
    BeepNet x = Due.net(8);
    for (int p = 0; p < 8; p++) {
      Due.is("kind(" + p + ")", x.kind(p), 4);
    }
    for (int p : WRONG) {
      Due.is("kind(" + p + ")", x.kind(p), Due.BAD);
    }
    Due.is("post()", x.post(), Due.FULL);
  }

  private static void join() {
    Due.test(7, "Two POSTS are NEIGHBOURS: 1; 0: they were.");
    BeepNet x = Due.net(8);
    Due.is("join(7, 0)", x.join(7, 0), 1);
    Due.is("they were", x.join(7, 0), 0);
    Due.is("they were, the other way", x.join(0, 7), 0);
    Due.is("they still are", x.told(0, 1), 128);
    Due.is("one pair", x.count(2), 1);
    x.part(0, 7);
    Due.is("anew", x.join(0, 7), 1);
    for (int a = 0; a < 8; a++) {
      for (int b = a + 1; b < 8; b++) {
        Due.is("join(" + a + ", " + b + ")", x.join(a, b), a == 0 && b == 7 ? 0 : 1);
      }
    }
    Due.is("all pairs of eight", x.count(2), 28);
  }

  private static void joinRefused() {
    Due.test(7, "BAD (the same, too).");
    BeepNet x = Due.net(8);
    BeepNet three = Due.net(3);
    for (int p = 0; p < 8; p++) {
      Due.is("join(" + p + ", " + p + ")", x.join(p, p), Due.BAD);
    }
    for (int w : WRONG) {
      Due.is("join(" + w + ", 0)", x.join(w, 0), Due.BAD);
      Due.is("join(0, " + w + ")", x.join(0, w), Due.BAD);
      Due.is("join(" + w + ", " + w + ")", x.join(w, w), Due.BAD);
    }
    Due.is("no post 3", three.join(3, 1), Due.BAD);
    Due.is("no post 3", three.join(1, 3), Due.BAD);
    Due.is("no pair", x.count(2) + three.count(2), 0);
    Due.is("no posts", new BeepNet().join(0, 1), Due.BAD);
  }

  private static void neighbours() {
    Due.test(7, "two unlike ones may be NEIGHBOURS (each of the other).");
    BeepNet x = Due.net(4);
    x.join(2, 0);
    Due.is("of 0", x.told(0, 1), 4);
    Due.is("of 2", x.told(2, 1), 1);
    Due.is("of 1", x.told(1, 1), 0);
    Due.is("of 3", x.told(3, 1), 0);
    x.join(1, 1);
    Due.is("not of itself", x.told(1, 1), 0);
  }

  private static void part() {
    Due.test(8, "Two POSTS are NEIGHBOURS no more: 1; 0: they were not.");
    BeepNet x = Due.net(8, 0, 1, 1, 7, 0, 7);
    Due.is("they were not", x.part(0, 2), 0);
    Due.is("three pairs", x.count(2), 3);
    Due.is("part(7, 1)", x.part(7, 1), 1);
    Due.is("of 1", x.told(1, 1), 1);
    Due.is("of 7", x.told(7, 1), 1);
    Due.is("of 0, as it was", x.told(0, 1), 130);
    Due.is("no more", x.part(1, 7), 0);
    Due.is("no more, the other way", x.part(7, 1), 0);
    Due.is("two pairs", x.count(2), 2);
    Due.is("still none", x.told(1, 1), 1);
    Due.is("joined anew", x.join(1, 7), 1);
  }

  private static void partRefused() {
    Due.test(8, "BAD (the same, too).");
    BeepNet x = Due.net(8, 0, 1, 6, 7);
    for (int p = 0; p < 8; p++) {
      Due.is("part(" + p + ", " + p + ")", x.part(p, p), Due.BAD);
    }
    for (int w : WRONG) {
      Due.is("part(" + w + ", 0)", x.part(w, 0), Due.BAD);
      Due.is("part(0, " + w + ")", x.part(0, w), Due.BAD);
    }
    Due.is("two pairs", x.count(2), 2);
    Due.is("no post 3", Due.net(3).part(1, 3), Due.BAD);
    Due.is("no post 3", Due.net(3).part(3, 1), Due.BAD);
  }

  private static void far() {
    Due.test(9, "FAR.");
    BeepNet x = Due.chain(8);
    BeepNet ring = Due.chain(8);
    ring.join(0, 7);
    for (int a = 0; a < 8; a++) {
      for (int b = 0; b < 8; b++) {
        int steps = Math.abs(a - b);
        Due.is("in a chain, far(" + a + ", " + b + ")", x.far(a, b), steps);
        Due.is("in a ring, far(" + a + ", " + b + ")", ring.far(a, b), Math.min(steps, 8 - steps));
      }
    }
  }

  private static void farRefused() {
    Due.test(9, "BAD; NONE.");
    BeepNet x = Due.net(8, 0, 1);
    for (int w : WRONG) {
      Due.is("far(" + w + ", 0)", x.far(w, 0), Due.BAD);
      Due.is("far(0, " + w + ")", x.far(0, w), Due.BAD);
      Due.is("far(" + w + ", " + w + ")", x.far(w, w), Due.BAD);
    }
    Due.is("no way", x.far(1, 2), Due.NONE);
    Due.is("no post 3", Due.net(3).far(3, 3), Due.BAD);
    Due.is("no posts", new BeepNet().far(0, 0), Due.BAD);
  }

  private static void fewestSteps() {
    Due.test(9, "FAR of two POSTS: the fewest steps from NEIGHBOUR to NEIGHBOUR (0 to itself); NONE, if there is no way.");
    BeepNet x = Due.net(8);
    for (int p = 0; p < 8; p++) {
      Due.is("to itself, alone", x.far(p, p), 0);
    }
    Due.is("no way at all", x.far(0, 7), Due.NONE);
    // a long way and a short one: 0 1 2 3 4 and 0 5 4
    int[] pairs = {0, 1, 1, 2, 2, 3, 3, 4, 0, 5, 5, 4};
    for (int i = 0; i < pairs.length; i += 2) {
      x.join(pairs[i], pairs[i + 1]);
    }
    Due.is("the short way", x.far(0, 4), 2);
    Due.is("the short way back", x.far(4, 0), 2);
    Due.is("to itself, with neighbours", x.far(0, 0), 0);
    x.join(6, 7);
    Due.is("another part", x.far(0, 6), Due.NONE);
    Due.is("another part, back", x.far(7, 0), Due.NONE);
    Due.is("within it", x.far(6, 7), 1);
    x.part(5, 0);
    Due.is("the long way", x.far(0, 4), 4);
    Due.is("longer still", x.far(0, 5), 5);
    x.part(2, 3);
    Due.is("no way now", x.far(0, 4), Due.NONE);
    Due.is("one post", Due.net(1).far(0, 0), 0);
  }

  private static void told() {
    Due.test(10, "Of a POST: 0 how many NEIGHBOURS, 1 the set of these, 2 WIDTH, 3 the set of those that can be come to (itself, too).");
    BeepNet x = Due.net(6, 0, 1, 1, 2, 2, 3, 1, 3);
    int[][] want = {
      {1, 2, 2, 15}, {3, 13, 1, 15}, {2, 10, 2, 15}, {2, 6, 2, 15}, {0, 0, 0, 16}, {0, 0, 0, 32},
    };
    for (int p = 0; p < 6; p++) {
      for (int what = 0; what < 4; what++) {
        Due.is("told(" + p + ", " + what + ")", x.told(p, what), want[p][what]);
      }
    }
    BeepNet full = Due.net(8);
    for (int a = 0; a < 8; a++) {
      for (int b = 0; b < a; b++) {
        full.join(a, b);
      }
    }
    Due.is("seven", full.told(7, 0), 7);
    Due.is("all others", full.told(7, 1), 127);
    Due.is("itself, too", full.told(7, 3), 255);
    BeepNet chain = Due.chain(8);
    Due.is("all of a chain", chain.told(7, 3), 255);
    chain.part(0, 1);
    Due.is("but the first", chain.told(7, 3), 254);
  }

  private static void toldRefused() {
    Due.test(10, "BAD.");
    BeepNet x = Due.net(8);
    for (int w : WRONG) {
      Due.is("told(" + w + ", 0)", x.told(w, 0), Due.BAD);
    }
    int[] wrongWhat = {-1, 4, Due.LEAST, Due.GREATEST};
    for (int what : wrongWhat) {
      Due.is("told(0, " + what + ")", x.told(0, what), Due.BAD);
    }
    for (int what = 0; what < 4; what++) {
      Due.is("no post 3, what " + what, Due.net(3).told(3, what), Due.BAD);
    }
  }

  private static void width() {
    Due.test(10, "WIDTH of a POST: the greatest FAR to a POST that can be come to.");
    BeepNet x = Due.chain(8);
    for (int p = 0; p < 8; p++) {
      Due.is("in a chain, told(" + p + ", 2)", x.told(p, 2), Math.max(p, 7 - p));
    }
    x.part(3, 4);
    for (int p = 0; p < 8; p++) {
      int end = p % 4;
      Due.is("in half of it, told(" + p + ", 2)", x.told(p, 2), Math.max(end, 3 - end));
    }
    Due.is("none can be come to", Due.net(8).told(0, 2), 0);
    Due.is("one post", Due.net(1).told(0, 2), 0);
  }

  private static void setsOfPosts() {
    Due.test(10, "A set of POSTS: bits (POST k: 2 to the power k).");
    BeepNet x = Due.net(8);
    for (int p = 0; p < 8; p++) {
      Due.is("told(" + p + ", 3)", x.told(p, 3), 1 << p);
    }
    for (int p = 1; p < 8; p++) {
      x.join(0, p);
      Due.is("told(0, 1)", x.told(0, 1), (2 << p) - 2);
      Due.is("told(" + p + ", 1)", x.told(p, 1), 1);
    }
  }

  private static void hears() {
    Due.test(11, "A ROUND by a HEARING, in which a set sounds: the set of those that HEAR (word or not).");
    BeepNet x = Due.chain(8);
    Due.is("none", x.hears(0, 0), 0);
    Due.is("the ends", x.hears(0, 129), 66);
    Due.is("the ends, talk", x.hears(1, 129), 66);
    Due.is("each second", x.hears(0, 0x55), 0xAA);
    Due.is("each second, talk", x.hears(1, 0x55), 0x80);
    Due.is("all", x.hears(0, 255), 0);
    Due.is("all, talk", x.hears(1, 255), 0);
    Due.is("no posts", new BeepNet().hears(0, 0), 0);
    Due.is("no posts, talk", new BeepNet().hears(1, 0), 0);
  }

  private static void hearsRefused() {
    Due.test(11, "BAD: HEARING, a set with others than POSTS.");
    BeepNet x = Due.net(8);
    int[] wrongHearing = {-1, 2, Due.LEAST, Due.GREATEST};
    for (int h : wrongHearing) {
      Due.is("hearing " + h, x.hears(h, 0), Due.BAD);
    }
    int[] wrongSets = {256, 257, -1, -256, Due.LEAST, Due.GREATEST};
    for (int set : wrongSets) {
      Due.is("beeps, set " + set, x.hears(0, set), Due.BAD);
      Due.is("talk, set " + set, x.hears(1, set), Due.BAD);
    }
    Due.is("255 of eight", x.hears(0, 255), 0);
    for (int posts = 0; posts < 8; posts++) {
      BeepNet few = Due.net(posts);
      Due.is("all of " + posts, few.hears(0, (1 << posts) - 1), 0);
      Due.is("others than " + posts, few.hears(0, 1 << posts), Due.BAD);
    }
  }

  private static void hearing() {
    Due.test(11, "A ROUND: a set SOUNDS. By HEARING 0 (beeps) a POST that does not sound HEARS, if one NEIGHBOUR or more sounds;");
    BeepNet star = Due.net(6, 0, 1, 0, 2, 0, 3, 0, 4);
    Due.is("none sounds", star.hears(0, 0), 0);
    Due.is("one", star.hears(0, 2), 1);
    Due.is("two at once", star.hears(0, 6), 1);
    Due.is("four at once", star.hears(0, 30), 1);
    Due.is("who sounds does not hear", star.hears(0, 3), 28);
    Due.is("who sounds does not hear", star.hears(0, 31), 0);
    Due.is("who sounds alone", star.hears(0, 32), 0);

    Due.test(11, "by 1 (talk) if just one does.");
    Due.is("none sounds", star.hears(1, 0), 0);
    Due.is("one", star.hears(1, 2), 1);
    Due.is("two at once", star.hears(1, 6), 0);
    Due.is("three at once", star.hears(1, 14), 0);
    Due.is("four at once", star.hears(1, 30), 0);
    Due.is("who sounds does not hear", star.hears(1, 3), 28);
    Due.is("who sounds does not hear", star.hears(1, 31), 0);
    Due.is("one that is no neighbour sounds, too", star.hears(1, 34), 1);
  }

  private static void spreads() {
    Due.test(12, "A ROUND by a HEARING: which set KNOWS then, if one KNOWS and one sounds.");
    BeepNet x = Due.chain(8);
    Due.is("an end", x.spreads(0, 1, 1), 3);
    Due.is("an end, talk", x.spreads(1, 128, 255), 192);
    Due.is("the middle", x.spreads(1, 8, 8), 28);
    Due.is("two sides", x.spreads(0, 5, 5), 15);
    Due.is("two sides, talk", x.spreads(1, 5, 5), 13);
    Due.is("all know", x.spreads(1, 255, 255), 255);
    Due.is("no posts", new BeepNet().spreads(0, 0, 0), 0);
  }

  private static void spreadsRefused() {
    Due.test(12, "BAD.");
    BeepNet x = Due.net(8);
    int[] wrongHearing = {-1, 2, Due.LEAST, Due.GREATEST};
    for (int h : wrongHearing) {
      Due.is("hearing " + h, x.spreads(h, 0, 0), Due.BAD);
    }
    int[] wrongSets = {256, -1, -256, Due.LEAST, Due.GREATEST};
    for (int set : wrongSets) {
      Due.is("knows " + set, x.spreads(0, set, 0), Due.BAD);
      Due.is("sounds " + set, x.spreads(0, 0, set), Due.BAD);
    }
    Due.is("255 of eight", x.spreads(0, 255, 255), 255);
    for (int posts = 0; posts < 8; posts++) {
      BeepNet few = Due.net(posts);
      Due.is("knows others than " + posts, few.spreads(1, 1 << posts, 0), Due.BAD);
      Due.is("sounds others than " + posts, few.spreads(1, 0, 1 << posts), Due.BAD);
    }
  }

  private static void word() {
    Due.test(12, "Word: a set KNOWS; those that SOUND and KNOW tell it: who does not KNOW, and HEARS by those alone");
    BeepNet star = Due.net(5, 0, 1, 0, 2, 0, 3);
    for (int hearing = 0; hearing < 2; hearing++) {
      Due.is("none knows", star.spreads(hearing, 0, 31), 0);
      Due.is("none sounds", star.spreads(hearing, 15, 0), 15);
      Due.is("who knows and does not sound", star.spreads(hearing, 2, 4), 2);
      Due.is("to three", star.spreads(hearing, 1, 1), 15);
      Due.is("who is alone", star.spreads(hearing, 16, 16), 16);
      Due.is("who knows keeps it, and hears nothing new", star.spreads(hearing, 3, 2), 3);
    }
    Due.is("two tell, beeps", star.spreads(0, 6, 6), 7);
    Due.is("two tell, talk", star.spreads(1, 6, 6), 6);

    Due.test(12, "(others that sound are silent to it, as if they did not), KNOWS then.");
    Due.is("one of two that sound knows, talk", star.spreads(1, 2, 6), 3);
    Due.is("one of three that sound knows, talk", star.spreads(1, 2, 14), 3);
    Due.is("two of three that sound know, talk", star.spreads(1, 6, 14), 6);
    Due.is("who sounds and does not know hears, beeps", star.spreads(0, 2, 3), 3);
    Due.is("who sounds and does not know hears, talk", star.spreads(1, 2, 3), 3);
    Due.is("all sound", star.spreads(1, 1, 31), 15);
    Due.is("who does not know tells nothing", star.spreads(0, 2, 1), 2);
  }
}
