/** Promises 6 to 12, 22 to 26: the net, a round, kinds, asks and counts. */
public final class NetTest {
  public static void main(String[] args) {
    post();
    join();
    part();
    far();
    told();
    hears();
    spreads();
    kind();
    as();
    askAndTrace();
    askRefused();
    count();
    refusedChangesNothing();
    Due.end();
  }

  private static void post() {
    BeepNet x = new BeepNet();
    for (int p = 0; p < 8; p++) {
      Due.is("not there yet", x.kind(p), Due.BAD);
      Due.is("post", x.post(), p);
      Due.is("posts", x.count(1), p + 1);
      Due.is("alone at first", x.told(p, 1), 0);
    }
    Due.is("the ninth", x.post(), Due.FULL);
    Due.is("the tenth", x.post(), Due.FULL);
    Due.is("eight", x.count(1), 8);
  }

  private static void join() {
    BeepNet x = Due.net(3);
    Due.is("the same", x.join(1, 1), Due.BAD);
    Due.is("a 3", x.join(3, 1), Due.BAD);
    Due.is("b 3", x.join(1, 3), Due.BAD);
    Due.is("a -1", x.join(-1, 1), Due.BAD);
    Due.is("b -1", x.join(1, -1), Due.BAD);
    Due.is("none", x.count(2), 0);
    Due.is("join", x.join(2, 0), 1);
    Due.is("each of the other", x.told(0, 1), 4);
    Due.is("each of the other", x.told(2, 1), 1);
    Due.is("not the third", x.told(1, 1), 0);
    Due.is("they were", x.join(2, 0), 0);
    Due.is("they were", x.join(0, 2), 0);
    Due.is("they are", x.told(0, 1), 4);
    Due.is("one pair", x.count(2), 1);
  }

  private static void part() {
    BeepNet x = Due.net(3, 0, 1, 1, 2);
    Due.is("the same", x.part(1, 1), Due.BAD);
    Due.is("a 3", x.part(3, 1), Due.BAD);
    Due.is("b 3", x.part(1, 3), Due.BAD);
    Due.is("a -1", x.part(-1, 1), Due.BAD);
    Due.is("b -1", x.part(1, -1), Due.BAD);
    Due.is("they were not", x.part(0, 2), 0);
    Due.is("two pairs", x.count(2), 2);
    Due.is("part", x.part(1, 0), 1);
    Due.is("no more", x.told(0, 1), 0);
    Due.is("the other stays", x.told(1, 1), 4);
    Due.is("no more", x.part(0, 1), 0);
    Due.is("joined anew", x.join(0, 1), 1);
  }

  private static void far() {
    BeepNet x = Due.chain(8);
    for (int a = 0; a < 8; a++) {
      for (int b = 0; b < 8; b++) {
        Due.is("far(" + a + ", " + b + ")", x.far(a, b), Math.abs(a - b));
      }
    }
    x.join(0, 7);
    for (int a = 0; a < 8; a++) {
      for (int b = 0; b < 8; b++) {
        int one = Math.abs(a - b);
        Due.is("in a ring, far(" + a + ", " + b + ")", x.far(a, b), Math.min(one, 8 - one));
      }
    }
    x.part(3, 4);
    x.part(5, 6);
    Due.is("no way", x.far(4, 3), Due.NONE);
    Due.is("no way", x.far(0, 5), Due.NONE);
    Due.is("a way", x.far(6, 3), 5);
    Due.is("to itself", x.far(5, 5), 0);
    Due.is("a 8", x.far(8, 0), Due.BAD);
    Due.is("b 8", x.far(0, 8), Due.BAD);
    Due.is("a -1", x.far(-1, 0), Due.BAD);
    Due.is("b -1", x.far(0, -1), Due.BAD);
    Due.is("not there, to itself", new BeepNet().far(0, 0), Due.BAD);
  }

  private static void told() {
    BeepNet x = Due.net(6, 0, 1, 1, 2, 2, 3, 1, 3);
    int[][] want = {
      {1, 2, 2, 15}, {3, 13, 1, 15}, {2, 10, 2, 15}, {2, 6, 2, 15}, {0, 0, 0, 16}, {0, 0, 0, 32},
    };
    for (int p = 0; p < 6; p++) {
      for (int what = 0; what < 4; what++) {
        Due.is("told(" + p + ", " + what + ")", x.told(p, what), want[p][what]);
      }
      Due.is("what 4", x.told(p, 4), Due.BAD);
      Due.is("what -1", x.told(p, -1), Due.BAD);
    }
    Due.is("post 6", x.told(6, 0), Due.BAD);
    Due.is("post -1", x.told(-1, 0), Due.BAD);
    BeepNet chain = Due.chain(8);
    Due.is("width of an end", chain.told(0, 2), 7);
    Due.is("width of the middle", chain.told(3, 2), 4);
    Due.is("all of a chain", chain.told(7, 3), 255);
  }

  private static void hears() {
    BeepNet star = Due.net(5, 0, 1, 0, 2, 0, 3);
    Due.is("none sounds", star.hears(0, 0), 0);
    Due.is("one", star.hears(0, 2), 1);
    Due.is("one", star.hears(1, 2), 1);
    Due.is("two at once, beeps", star.hears(0, 6), 1);
    Due.is("two at once, talk", star.hears(1, 6), 0);
    Due.is("three at once, beeps", star.hears(0, 14), 1);
    Due.is("three at once, talk", star.hears(1, 14), 0);
    Due.is("who sounds doesn't hear, beeps", star.hears(0, 3), 12);
    Due.is("who sounds doesn't hear, talk", star.hears(1, 3), 12);
    Due.is("who is alone", star.hears(0, 16), 0);
    Due.is("hearing 2", star.hears(2, 0), Due.BAD);
    Due.is("hearing -1", star.hears(-1, 0), Due.BAD);
    Due.is("post 5", star.hears(0, 32), Due.BAD);
    Due.is("a negative set", star.hears(0, -1), Due.BAD);
    Due.is("all", star.hears(0, 31), 0);
  }

  private static void spreads() {
    BeepNet star = Due.net(5, 0, 1, 0, 2, 0, 3);
    Due.is("one tells", star.spreads(1, 2, 2), 3);
    Due.is("two tell, beeps", star.spreads(0, 6, 6), 7);
    Due.is("two tell, talk", star.spreads(1, 6, 6), 6);
    Due.is("one of two knows, talk", star.spreads(1, 2, 6), 3);
    Due.is("who doesn't know sounds, and hears", star.spreads(1, 2, 3), 3);
    Due.is("who doesn't know doesn't tell", star.spreads(0, 2, 1), 2);
    Due.is("none knows", star.spreads(0, 0, 31), 0);
    Due.is("none sounds", star.spreads(0, 15, 0), 15);
    Due.is("to three", star.spreads(1, 1, 31), 15);
    Due.is("who is alone keeps it", star.spreads(0, 16, 31), 16);
    Due.is("hearing 2", star.spreads(2, 0, 0), Due.BAD);
    Due.is("hearing -1", star.spreads(-1, 0, 0), Due.BAD);
    Due.is("knows 32", star.spreads(0, 32, 0), Due.BAD);
    Due.is("sounds 32", star.spreads(0, 0, 32), Due.BAD);
    Due.is("knows -1", star.spreads(0, -1, 0), Due.BAD);
    Due.is("sounds -1", star.spreads(0, 0, -1), Due.BAD);
  }

  private static void kind() {
    BeepNet x = Due.net(6, 0, 1, 1, 2, 2, 3, 1, 3, 3, 4, 4, 0);
    int[] want = {1, 3, 1, 3, 1, 4};
    for (int p = 0; p < 6; p++) {
      Due.is("kind(" + p + ")", x.kind(p), want[p]);
    }
    Due.is("post 6", x.kind(6), Due.BAD);
    Due.is("post -1", x.kind(-1), Due.BAD);
    x.part(0, 4);
    Due.is("a leaf", x.kind(0), 2);
    Due.is("a leaf", x.kind(4), 2);
    x.join(5, 1);
    Due.is("the only hub", x.kind(1), 3);
    Due.is("a hub no more", x.kind(3), 1);
    BeepNet pair = Due.net(2, 0, 1);
    Due.is("two leaves, no hub", pair.kind(0), 2);
    for (int hub = 0; hub < 8; hub++) {
      BeepNet star = Due.net(8);
      for (int p = 0; p < 8; p++) {
        star.join(hub, p);
      }
      star.join(hub == 0 ? 1 : 0, hub == 7 ? 6 : 7);
      Due.is("the only hub", star.kind(hub), 3);
      Due.is("hubs", star.count(5), 1);
      Due.is("leaves", star.count(4), 5);
    }
    BeepNet ring = Due.net(3, 0, 1, 1, 2, 2, 0);
    Due.is("all are hubs", ring.kind(0), 3);
  }

  private static void as() {
    // 0 leaf, 1 hub, 2 and 3 linked or hubs, 5 lone
    BeepNet x = Due.net(6, 0, 1, 1, 2, 1, 3, 2, 3, 3, 4, 1, 4);
    int[] degree = {1, 4, 2, 3, 2, 0};
    String[] fits = {"012", "013", "01", "01", "01", "04"};
    for (int p = 0; p < 6; p++) {
      for (int kind = 0; kind < 5; kind++) {
        boolean is = fits[p].indexOf((char) ('0' + kind)) >= 0;
        Due.is("as(" + p + ", " + kind + ")", x.as(p, kind), is ? degree[p] : Due.KIND);
        Due.is("status()", x.status(), is ? 0 : 3);
      }
    }
    Due.is("kind 5", x.as(0, 5), Due.BAD);
    Due.is("kind -1", x.as(0, -1), Due.BAD);
    Due.is("post 6", x.as(6, 0), Due.BAD);
    Due.is("post -1", x.as(-1, 0), Due.BAD);
  }

  private static void askAndTrace() {
    // 0 leaf, 1 hub, 2 linked, 3 leaf, 5 lone
    BeepNet x = Due.net(6, 0, 1, 1, 2, 2, 3, 1, 4);
    asked(x, 2, 0, 4, 11, 10);
    asked(x, 2, 1, 2, 20);
    asked(x, 0, 0, 8, 12, 11, 10);
    asked(x, 0, 1, 0, 20);
    asked(x, 3, 0, 8, 12, 11, 10);
    asked(x, 3, 1, 3, 20);
    asked(x, 1, 0, 106, 13, 11, 10, 21, 20);
    asked(x, 1, 1, 101, 21, 20);
    asked(x, 5, 0, 0, 10);
    asked(x, 5, 1, 5, 22, 20, 10);
    x.join(5, 1);
    asked(x, 5, 1, 5, 20);
    asked(x, 1, 0, 107, 13, 11, 10, 21, 20);
  }

  private static void asked(BeepNet x, int post, int what, int want, int... trace) {
    String call = "ask(" + post + ", " + what + ")";
    Due.is(call, x.ask(post, what), want);
    for (int i = 0; i < 18; i++) {
      Due.is(call + " trace(" + i + ")", x.trace(i), i < trace.length ? trace[i] : Due.NONE);
    }
    Due.is(call + " trace(-1)", x.trace(-1), Due.NONE);
  }

  private static void askRefused() {
    BeepNet x = Due.net(2);
    x.ask(0, 1);
    Due.is("post 2", x.ask(2, 0), Due.BAD);
    Due.is("post -1", x.ask(-1, 0), Due.BAD);
    Due.is("what 2", x.ask(0, 2), Due.BAD);
    Due.is("what -1", x.ask(0, -1), Due.BAD);
    Due.is("refused: the trace stays", x.trace(0), 22);
    Due.is("refused: the trace stays", x.trace(2), 10);
    Due.is("far beyond", x.trace(Integer.MAX_VALUE), Due.NONE);
    Due.is("far below", x.trace(Integer.MIN_VALUE), Due.NONE);
  }

  private static void count() {
    BeepNet x = Due.net(7, 0, 1, 1, 2, 2, 3, 3, 1, 4, 5);
    x.sheet(2, 0, 0);
    x.sheet(5, 1, 3);
    Due.schedule(x, "all;round 1;");
    Due.feed(x, "all");
    int[] want = {2, 7, 5, 2, 3, 1, 1, 3};
    for (int what = 0; what < 8; what++) {
      Due.is("count(" + what + ")", x.count(what), want[what]);
    }
    Due.is("what 8", x.count(8), Due.BAD);
    Due.is("what -1", x.count(-1), Due.BAD);
  }

  private static void refusedChangesNothing() {
    BeepNet x = Due.net(8, 0, 1, 1, 2, 2, 3);
    x.sheet(0, 0, 3);
    Due.schedule(x, "all;round 1;");
    Due.schedule(x, "alls;");
    Due.feed(x, "all");
    x.ask(1, 0);
    String ahead = Due.seen(x);
    x.post();
    x.join(8, 0);
    x.join(3, 3);
    x.part(0, -1);
    x.part(1, 1);
    x.as(0, 4);
    x.as(0, 9);
    x.ask(8, 0);
    x.ask(0, 7);
    x.feed(0, 0);
    x.feed(0, 9);
    x.sheet(0, 0, -1);
    x.sheet(0, 4, 1);
    x.drop(6);
    x.drop(9);
    x.run(3, 0, 0);
    x.hears(0, 256);
    x.spreads(0, 256, 0);
    Due.holds("what is refused, or found, changes nothing", ahead.equals(Due.seen(x)));
  }
}
