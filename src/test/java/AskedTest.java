/** Promises 22 to 26, sentence by sentence: kinds, asks, the trace and counts. */
public final class AskedTest {
  private static final int[] WRONG = {-1, 8, 32, Due.LEAST, Due.GREATEST};

  public static void main(String[] args) {
    kind();
    kindRefused();
    linked();
    leaf();
    hub();
    lone();
    toldAs();
    as();
    asRefused();
    ask();
    askRefused();
    emptyTrace();
    traceBegins();
    sizes();
    marks();
    nearestKind();
    trace();
    count();
    countRefused();
    Due.end();
  }

  private static void kind() {
    Due.test(22, "The KIND of a POST, as it is told (1 to 4).");
    // 0 leaf, 1 hub, 2 linked, 3 leaf, 4 leaf, 5 lone
    BeepNet x = Due.net(6, 0, 1, 1, 2, 2, 3, 1, 4);
    int[] want = {2, 3, 1, 2, 2, 4};
    for (int p = 0; p < 6; p++) {
      Due.is("kind(" + p + ")", x.kind(p), want[p]);
    }
    x.join(5, 2);
    x.join(2, 4);
    int[] then = {2, 1, 3, 2, 1, 2};
    for (int p = 0; p < 6; p++) {
      Due.is("then kind(" + p + ")", x.kind(p), then[p]);
    }
  }

  private static void kindRefused() {
    Due.test(22, "BAD.");
    BeepNet x = Due.net(8);
    for (int w : WRONG) {
      Due.is("kind(" + w + ")", x.kind(w), Due.BAD);
    }
    Due.is("no post 3", Due.net(3).kind(3), Due.BAD);
    Due.is("no posts", new BeepNet().kind(0), Due.BAD);
  }

  private static void linked() {
    Due.test(22, "KINDS of POSTS: 0 POST; 1 LINKED, a POST: it has NEIGHBOURS;");
    // 0 is the hub; 1 and 2 have two neighbours each
    BeepNet x = Due.net(4, 0, 1, 0, 2, 1, 2, 0, 3);
    Due.is("linked", x.kind(1), 1);
    Due.is("linked", x.kind(2), 1);
    Due.is("as one", x.as(1, 1), 2);
    Due.is("as a post", x.as(1, 0), 2);
    x.part(0, 1);
    x.part(1, 2);
    Due.is("without neighbours", x.kind(1), 4);
    Due.is("as a linked one", x.as(1, 1), Due.KIND);
    Due.is("as a post", x.as(1, 0), 0);
  }

  private static void leaf() {
    Due.test(22, "2 LEAF, a LINKED one: it has one NEIGHBOUR;");
    BeepNet x = Due.net(3);
    Due.is("none", x.kind(0), 4);
    x.join(0, 1);
    Due.is("one", x.kind(0), 2);
    Due.is("one", x.kind(1), 2);
    x.join(0, 2);
    Due.is("two", x.kind(0), 3);
    Due.is("one", x.kind(2), 2);
    x.part(0, 1);
    Due.is("one again", x.kind(0), 2);
    Due.is("none again", x.kind(1), 4);
  }

  private static void hub() {
    Due.test(22, "3 HUB, a LINKED one: no POST has more NEIGHBOURS, and it has two or more;");
    BeepNet pair = Due.net(2, 0, 1);
    Due.is("no post has more than one, but a hub has two", pair.kind(0), 2);
    Due.is("as a hub", pair.as(0, 3), Due.KIND);
    BeepNet three = Due.chain(3);
    Due.is("two", three.kind(1), 3);
    BeepNet ring = Due.net(3, 0, 1, 1, 2, 2, 0);
    for (int p = 0; p < 3; p++) {
      Due.is("as many as any: kind(" + p + ")", ring.kind(p), 3);
    }
    for (int hub = 0; hub < 8; hub++) {
      BeepNet star = Due.net(8);
      for (int p = 0; p < 8; p++) {
        star.join(hub, p);
      }
      int a = hub == 0 ? 1 : 0;
      int b = hub == 7 ? 6 : 7;
      star.join(a, b);
      Due.is("seven: kind(" + hub + ")", star.kind(hub), 3);
      Due.is("two, but one has more", star.kind(a), 1);
      Due.is("two, but one has more", star.kind(b), 1);
      Due.is("one hub", star.count(5), 1);
    }
    BeepNet parts = Due.net(8, 0, 1, 1, 2, 3, 4, 4, 5, 4, 6);
    Due.is("a post of another part has more", parts.kind(1), 1);
    Due.is("a hub", parts.kind(4), 3);
  }

  private static void lone() {
    Due.test(22, "4 LONE, a POST: it has none.");
    BeepNet x = Due.net(3, 0, 1);
    Due.is("none", x.kind(2), 4);
    Due.is("as a lone one", x.as(2, 4), 0);
    Due.is("one", x.kind(0), 2);
    Due.is("as a lone one", x.as(0, 4), Due.KIND);
    x.part(0, 1);
    Due.is("none now", x.kind(0), 4);
    Due.is("the only post", Due.net(1).kind(0), 4);
  }

  private static void toldAs() {
    Due.test(22, "It is told as the first that fits of LONE, LEAF, HUB, LINKED;");
    BeepNet lone = Due.net(1);
    Due.is("lone, though none has more", lone.kind(0), 4);
    BeepNet pair = Due.net(2, 0, 1);
    Due.is("leaf, though linked", pair.kind(1), 2);
    BeepNet chain = Due.chain(4);
    Due.is("hub, though linked", chain.kind(1), 3);
    Due.is("hub, though linked", chain.kind(2), 3);
    chain.post();
    chain.join(1, 4);
    Due.is("linked", chain.kind(2), 1);

    Due.test(24, "by this it is asked.");
    Due.is("a lone one's mark", lone.ask(0, 1), 0);
    Due.is("a lone one's body", lone.trace(0), 22);
    Due.is("a leaf's size", pair.ask(1, 0), 4);
    Due.is("a leaf's body", pair.trace(0), 12);
    Due.is("a hub's size", chain.ask(1, 0), 3 + 2 + 101);
    Due.is("a hub's body", chain.trace(0), 13);
    Due.is("a linked one's size", chain.ask(2, 0), 2 + 2);
    Due.is("a linked one's body", chain.trace(0), 11);
  }

  private static void as() {
    Due.test(23, "A POST is taken as one of a KIND (0 .. 4): how many NEIGHBOURS.");
    // 0 leaf, 1 hub, 2, 3 and 4 linked, 5 lone
    BeepNet x = Due.net(6, 0, 1, 1, 2, 1, 3, 2, 3, 3, 4, 1, 4);
    int[][] fits = {{0, 0, 1}, {0, 1, 1}, {0, 2, 1}, {1, 0, 4}, {1, 1, 4}, {1, 3, 4}, {2, 0, 2}, {2, 1, 2}, {3, 0, 3},
      {3, 1, 3}, {4, 1, 2}, {5, 0, 0}, {5, 4, 0}};
    for (int[] f : fits) {
      Due.is("as(" + f[0] + ", " + f[1] + ")", x.as(f[0], f[1]), f[2]);
      Due.is("status()", x.status(), 0);
    }
  }

  private static void asRefused() {
    Due.test(23, "BAD; KIND: it is not told as that (LEAVES, HUBS are LINKED, too).");
    BeepNet x = Due.net(8, 0, 1, 1, 2, 1, 3, 2, 3, 3, 4, 1, 4);
    String[] fits = {"012", "013", "01", "01", "01", "04"};
    int[] degree = {1, 4, 2, 3, 2, 0};
    for (int p = 0; p < 6; p++) {
      for (int kind = 0; kind < 5; kind++) {
        boolean is = fits[p].indexOf((char) ('0' + kind)) >= 0;
        Due.is("as(" + p + ", " + kind + ")", x.as(p, kind), is ? degree[p] : Due.KIND);
        Due.is("as(" + p + ", " + kind + ") status()", x.status(), is ? 0 : 3);
      }
    }
    for (int w : WRONG) {
      Due.is("as(" + w + ", 0)", x.as(w, 0), Due.BAD);
    }
    int[] wrongKinds = {-1, 5, Due.LEAST, Due.GREATEST};
    for (int kind : wrongKinds) {
      Due.is("as(0, " + kind + ")", x.as(0, kind), Due.BAD);
    }
    Due.is("no post 3", Due.net(3).as(3, 0), Due.BAD);
  }

  private static void ask() {
    Due.test(24, "An ASK (0, 1) of a POST.");
    // 0 leaf, 1 hub, 2 linked, 3 leaf, 4 leaf, 5 lone
    BeepNet x = Due.net(6, 0, 1, 1, 2, 2, 3, 1, 4);
    int[][] want = {{8, 0}, {106, 101}, {4, 2}, {8, 3}, {8, 4}, {0, 5}};
    for (int p = 0; p < 6; p++) {
      Due.is("ask(" + p + ", 0)", x.ask(p, 0), want[p][0]);
      Due.is("ask(" + p + ", 1)", x.ask(p, 1), want[p][1]);
    }
    x.join(5, 1);
    Due.is("lone no more", x.ask(5, 1), 5);
    Due.is("a greater hub", x.ask(1, 0), 4 + 2 + 101);
  }

  private static void askRefused() {
    Due.test(24, "BAD.");
    BeepNet x = Due.net(8);
    x.ask(0, 1);
    for (int w : WRONG) {
      Due.is("ask(" + w + ", 0)", x.ask(w, 0), Due.BAD);
      Due.is("ask(" + w + ", 1)", x.ask(w, 1), Due.BAD);
    }
    int[] wrongWhat = {-1, 2, Due.LEAST, Due.GREATEST};
    for (int what : wrongWhat) {
      Due.is("ask(0, " + what + ")", x.ask(0, what), Due.BAD);
    }
    Due.is("no post 3", Due.net(3).ask(3, 0), Due.BAD);
    traceIs(x, "refused: the trace stays", 22, 20, 10);
  }

  private static void traceIs(BeepNet x, String call, int... want) {
    for (int i = 0; i <= 17; i++) {
      Due.is(call + ", trace(" + i + ")", x.trace(i), i < want.length ? want[i] : Due.NONE);
    }
  }

  private static void emptyTrace() {
    Due.test(24, "THE TRACE is empty ahead of it.");
    BeepNet x = Due.net(4, 0, 1, 1, 2);
    x.ask(1, 0);
    traceIs(x, "five bodies", 13, 11, 10, 21, 20);
    x.ask(0, 1);
    traceIs(x, "one body behind five", 20);
    x.ask(1, 0);
    traceIs(x, "five again", 13, 11, 10, 21, 20);
    x.ask(1, 0);
    traceIs(x, "not ten", 13, 11, 10, 21, 20);
    for (int times = 0; times < 20; times++) {
      x.ask(3, 1);
    }
    traceIs(x, "not more than the latest ask's", 22, 20, 10);
  }

  private static void traceBegins() {
    Due.test(25, "ASKS, by BODIES, each of which leaves its number in THE TRACE as it begins (the first 16):");
    BeepNet x = Due.net(4, 0, 1, 1, 2);
    x.ask(1, 0);
    traceIs(x, "a body comes ahead of those within it", 13, 11, 10, 21, 20);
    Due.is("number 15", x.trace(15), Due.NONE);
    Due.is("number 16", x.trace(16), Due.NONE);
  }

  private static void asked(BeepNet x, int post, int what, int want, int... trace) {
    String call = "ask(" + post + ", " + what + ")";
    Due.is(call, x.ask(post, what), want);
    traceIs(x, call, trace);
  }

  private static void sizes() {
    // 0 leaf, 1 hub, 2 linked, 3 leaf, 4 leaf, 5 lone
    BeepNet x = Due.net(6, 0, 1, 1, 2, 2, 3, 1, 4);
    Due.test(24, "0 SIZE: 10 lent to all POSTS: how many NEIGHBOURS.");
    asked(x, 5, 0, 0, 10);
    Due.test(24, "11 of LINKED ones: what 10 gives, and WIDTH.");
    asked(x, 2, 0, 2 + 2, 11, 10);
    Due.test(24, "12 of LEAVES: what 11 gives, twice.");
    asked(x, 0, 0, 2 * (1 + 3), 12, 11, 10);
    asked(x, 3, 0, 2 * (1 + 3), 12, 11, 10);
    Due.test(24, "13 of HUBS: what 11 gives, and MARK.");
    asked(x, 1, 0, 3 + 2 + 101, 13, 11, 10, 21, 20);
  }

  private static void marks() {
    // 7 hub, 0, 3 and 4 leaves, 2 linked, 5 lone
    BeepNet x = Due.net(8, 0, 7, 7, 2, 2, 3, 7, 4);
    Due.test(24, "1 MARK: 20 lent to all POSTS: its number.");
    asked(x, 0, 1, 0, 20);
    asked(x, 2, 1, 2, 20);
    asked(x, 4, 1, 4, 20);
    Due.test(24, "21 of HUBS: what 20 gives, and 100.");
    asked(x, 7, 1, 107, 21, 20);
    Due.test(24, "22 of LONE ones: what 20 gives, and SIZE.");
    asked(x, 5, 1, 5, 22, 20, 10);
    asked(x, 6, 1, 6, 22, 20, 10);
  }

  private static void nearestKind() {
    // 6 hub, 0 leaf, 2 linked, 5 lone
    BeepNet x = Due.net(7, 0, 6, 6, 2, 2, 3, 6, 4);
    Due.test(24, "(Of an ask the BODY told for the KIND begins, else that of the nearest KIND that it is, too, else the one that is lent;");
    asked(x, 0, 0, 8, 12, 11, 10);
    asked(x, 0, 1, 0, 20);
    asked(x, 2, 1, 2, 20);
    asked(x, 5, 0, 0, 10);
    Due.test(24, "SIZE, MARK within others are asked of the same POST anew.)");
    asked(x, 6, 0, 3 + 2 + 106, 13, 11, 10, 21, 20);
    asked(x, 5, 1, 5, 22, 20, 10);
  }

  private static void trace() {
    Due.test(25, "Number i of THE TRACE; NONE.");
    BeepNet x = Due.net(3, 0, 1, 1, 2);
    Due.is("before an ask", x.trace(0), Due.NONE);
    x.ask(0, 0);
    Due.is("trace(0)", x.trace(0), 12);
    Due.is("trace(1)", x.trace(1), 11);
    Due.is("trace(2)", x.trace(2), 10);
    int[] none = {-1, 3, 15, 16, 17, Due.LEAST, Due.GREATEST};
    for (int i : none) {
      Due.is("trace(" + i + ")", x.trace(i), Due.NONE);
    }
    x.part(0, 1);
    x.kind(0);
    x.as(0, 4);
    Due.is("it is that of the latest ask", x.trace(0), 12);
  }

  private static void count() {
    Due.test(26, "How many: 0 SHEETS, 1 POSTS, 2 pairs of NEIGHBOURS, 3 ROUNDS of the SCHEDULE, 4 LEAVES, 5 HUBS, 6 LONE ones, 7 bytes on the tape.");
    BeepNet x = new BeepNet();
    counts(x, 0, 0, 0, 0, 0, 0, 0, 0);
    for (int p = 0; p < 7; p++) {
      x.post();
    }
    counts(x, 0, 7, 0, 0, 0, 0, 7, 0);
    x.sheet(2, 0, 0);
    x.sheet(5, 1, 3);
    Due.schedule(x, "all;round 1;");
    Due.feed(x, "all");
    counts(x, 2, 7, 0, 2, 0, 0, 7, 3);
    x.join(4, 5);
    counts(x, 2, 7, 1, 2, 2, 0, 5, 3);
    int[] pairs = {0, 1, 1, 2, 2, 3, 3, 1};
    for (int i = 0; i < pairs.length; i += 2) {
      x.join(pairs[i], pairs[i + 1]);
    }
    counts(x, 2, 7, 5, 2, 3, 1, 1, 3);
    x.part(0, 1);
    x.drop(2);
    x.schedule();
    counts(x, 1, 7, 4, 2, 2, 3, 2, 0);
    for (int s = 0; s < 8; s++) {
      x.sheet(s, 0, 0);
    }
    x.post();
    x.post();
    Due.schedule(x, "all;".repeat(20));
    Due.feed(x, " ".repeat(300));
    counts(x, 8, 8, 4, 20, 2, 3, 3, 300);
    BeepNet full = Due.net(8);
    for (int a = 0; a < 8; a++) {
      for (int b = 0; b < a; b++) {
        full.join(a, b);
      }
    }
    counts(full, 0, 8, 28, 0, 0, 8, 0, 0);
  }

  private static void counts(BeepNet x, int... want) {
    for (int what = 0; what < 8; what++) {
      Due.is("count(" + what + ")", x.count(what), want[what]);
    }
  }

  private static void countRefused() {
    Due.test(26, "BAD.");
    BeepNet x = new BeepNet();
    int[] wrong = {-1, 8, Due.LEAST, Due.GREATEST};
    for (int what : wrong) {
      Due.is("count(" + what + ")", x.count(what), Due.BAD);
    }
  }
}
