import java.util.function.ToLongFunction;

/** 'Terms': the order of the refusals, the findings' numbers, and that what is refused or found changes nothing. */
public final class RefusalsTest {
  private static final int STATUS_AHEAD = 5;

  public static void main(String[] args) {
    numbers();
    badAheadOfState();
    badAheadOfFull();
    badAheadOfFindings();
    firstInTime();
    findings();
    sheetsUnchanged();
    copyUnchanged();
    picksUnchanged();
    netUnchanged();
    roundsUnchanged();
    tapeUnchanged();
    searchesUnchanged();
    stateUnchanged();
    askedUnchanged();
    Due.end();
  }

  private static void numbers() {
    Due.test(6, "Numbers go from 0 on.");
    BeepNet x = new BeepNet();
    Due.is("the first post", x.post(), 0);
    Due.is("the first sheet", x.sheet(0, 0, 1), 1);
    Due.is("its first item", x.set(0, 0, 1), 1);
    Due.is("a fault at the first byte", Due.schedule(x, ";"), -1000100);
    Due.schedule(x, "all;");
    Due.is("the first round", x.round(0), 1);
    x.ask(0, 0);
    Due.is("the first of the trace", x.trace(0), 10);
    Due.is("the first bit", x.told(0, 3), 1);
  }

  private static void badAheadOfState() {
    Due.test(17, "Refusals are answers, the first of these that fits: BAD (a number is not as told; there is no such thing), STATE (as told),");
    BeepNet x = Due.net(2, 0, 1);
    Due.is("run", x.run(0, 0, 1), Due.STATE);
    Due.is("run, hearing 2", x.run(2, 0, 1), Due.BAD);
    Due.is("run, no such post", x.run(0, 2, 1), Due.BAD);
    Due.is("run, rounds 61", x.run(0, 0, 61), Due.BAD);
    Due.test(19, "BAD (a number is not as told; there is no such thing), STATE (as told),");
    Due.is("jammed", x.jammed(0, 0, 1), Due.STATE);
    Due.is("jammed, hearing 2", x.jammed(2, 0, 1), Due.BAD);
    Due.is("jammed, no such post", x.jammed(0, 2, 1), Due.BAD);
    Due.is("jammed, spoilt 6", x.jammed(0, 0, 6), Due.BAD);
  }

  private static void badAheadOfFull() {
    Due.test(13, "the first of these that fits: BAD (a number is not as told; there is no such thing), STATE (as told), FULL, then FINDINGS,");
    BeepNet x = new BeepNet();
    Due.feed(x, " ".repeat(300));
    Due.is("n 1", x.feed(32, 1), Due.FULL);
    Due.is("n 8", x.feed(32, 8), Due.FULL);
    Due.is("n 0", x.feed(32, 0), Due.BAD);
    Due.is("n 9", x.feed(32, 9), Due.BAD);
  }

  private static void badAheadOfFindings() {
    BeepNet x = Due.net(2, 0, 1);
    x.sheet(0, 0, 2);
    x.sheet(1, 1, 2);
    Due.test(2, "BAD (a number is not as told; there is no such thing), STATE (as told), FULL, then FINDINGS,");
    Due.is("sheet 8, n -1", x.sheet(8, 0, -1), Due.BAD);
    Due.is("lane 3, n -1", x.sheet(0, 3, -1), Due.BAD);
    Due.test(3, "BAD (a number is not as told; there is no such thing), STATE (as told), FULL, then FINDINGS,");
    Due.is("sheet 8, place -1", x.set(8, -1, 0), Due.BAD);
    Due.test(4, "BAD (a number is not as told; there is no such thing), STATE (as told), FULL, then FINDINGS,");
    Due.is("a missing, b 8", x.copy(5, 0, 8, 0, 1), Due.BAD);
    Due.is("a 8, b missing", x.copy(8, 0, 5, 0, 1), Due.BAD);
    Due.is("b -1, i -1", x.copy(0, -1, -1, 0, 1), Due.BAD);
    Due.test(21, "BAD (a number is not as told; there is no such thing), STATE (as told), FULL, then FINDINGS,");
    Due.is("missing, n 0", x.picks(5, 0, 0, 1, 0), Due.BAD);
    Due.is("missing, k 5", x.picks(5, 0, 1, 5, 0), Due.BAD);
    Due.is("missing, what 2", x.picks(5, 0, 1, 1, 2), Due.BAD);
    Due.is("place -1, n 41", x.picks(0, -1, 41, 1, 0), Due.BAD);
    Due.is("place 2, k 0", x.picks(0, 2, 1, 0, 0), Due.BAD);
    Due.is("place 2, what -1", x.picks(0, 2, 1, 1, -1), Due.BAD);
    Due.test(23, "BAD (a number is not as told; there is no such thing), STATE (as told), FULL, then FINDINGS,");
    Due.is("no such post, lone", x.as(2, 4), Due.BAD);
    Due.is("no such kind", x.as(0, 5), Due.BAD);
    Due.is("status() is of the last that was not BAD", x.status(), 0);
  }

  private static void firstInTime() {
    BeepNet x = Due.net(2);
    x.sheet(0, 0, 2);
    x.sheet(1, 1, 2);
    Due.test(3, "of several the first in time:");
    Due.is("missing, place -1", x.set(5, -1, 0), Due.NULL);
    Due.test(4, "of several the first in time:");
    Due.is("a missing, i -1", x.copy(5, -1, 0, 0, 1), Due.NULL);
    Due.is("b missing, n -1", x.copy(0, 0, 5, 0, -1), Due.NULL);
    Due.is("b missing, i beyond the end of a", x.copy(0, 3, 5, 0, 1), Due.NULL);
    Due.is("two lanes, i -1", x.copy(0, -1, 1, 0, 1), Due.STORE);
    Due.is("two lanes, j 3", x.copy(0, 0, 1, 3, 1), Due.STORE);
    Due.is("two lanes, n -1", x.copy(1, 0, 0, 0, -1), Due.STORE);
    Due.test(21, "of several the first in time:");
    Due.is("missing, place -1", x.picks(5, -1, 1, 1, 0), Due.NULL);
    Due.is("missing, n 40", x.picks(5, 0, 40, 1, 0), Due.NULL);
  }

  private static void finding(String call, BeepNet x, long answer, int number) {
    Due.is(call, answer, -1000010 - number);
    Due.is(call + " status()", x.status(), number);
  }

  private static void findings() {
    BeepNet x = Due.net(2);
    x.sheet(0, 0, 2);
    x.sheet(1, 1, 2);
    Due.test(5, "-1000010 less 1 NULL (a SHEET that is missing),");
    finding("drop", x, x.drop(5), 1);
    finding("set", x, x.set(5, 0, 0), 1);
    finding("copy", x, x.copy(0, 0, 5, 0, 0), 1);
    finding("picks", x, x.picks(5, 0, 1, 1, 0), 1);
    Due.test(3, "2 PLACE (no such place of a SHEET),");
    finding("set", x, x.set(0, 2, 0), 2);
    finding("copy", x, x.copy(0, 0, 0, 0, 3), 2);
    finding("picks", x, x.picks(0, 0, 3, 1, 0), 2);
    Due.test(23, "3 KIND (a POST that is not that),");
    finding("as", x, x.as(0, 1), 3);
    Due.test(2, "4 SIZE (fewer than none),");
    finding("sheet", x, x.sheet(0, 0, -1), 4);
    Due.test(4, "5 STORE (SHEETS of two LANES).");
    finding("copy", x, x.copy(0, 0, 1, 0, 1), 5);
  }

  /** Something of everything: 8 posts of all kinds, sheets of all lanes, rounds, a fault, a trace, 297 bytes. */
  private static BeepNet rich() {
    BeepNet x = Due.net(8, 0, 1, 1, 2, 2, 3, 1, 4, 5, 6);
    x.sheet(0, 0, 3);
    x.set(0, 0, 5);
    x.set(0, 2, 129);
    x.sheet(1, 1, 2);
    x.set(1, 0, 3);
    x.set(1, 1, 64);
    x.sheet(2, 2, 0);
    x.sheet(3, 0, 2);
    x.set(3, 1, 24);
    Due.schedule(x, "round 0 2;all;round 7;");
    Due.schedule(x, "twice;");
    Due.feed(x, "round 1 6;twice;" + " ".repeat(281));
    x.ask(1, 0);
    x.copy(0, 0, 1, 0, 1);
    return x;
  }

  /** Posts and a tape, but an empty schedule. */
  private static BeepNet bare() {
    BeepNet x = Due.net(8, 0, 1);
    Due.feed(x, "round 1;");
    x.sheet(0, 0, 1);
    x.sheet(1, 1, 1);
    x.copy(0, 0, 1, 0, 1);
    return x;
  }

  /** All that can be seen but status(): the tape last, since it is empty when it has been read. */
  private static String seen(BeepNet x) {
    StringBuilder all = new StringBuilder();
    for (int i = 0; i < 8; i++) {
      all.append(x.count(i)).append(' ').append(x.told(i, 1)).append(' ').append(x.kind(i)).append(' ');
      all.append(x.round(i)).append(' ').append(x.trace(i)).append('\n');
    }
    all.append(x.fault()).append('\n');
    int[][] items = {{0, 0, 0}, {0, 0, 1}, {0, 0, 2}, {1, 1, 0}, {1, 1, 1}, {3, 0, 0}, {3, 0, 1}};
    for (int[] i : items) {
      all.append(Due.bits(x, i[0], i[1], i[2])).append(' ');
    }
    all.append(x.schedule()).append('\n');
    for (int i = 0; i < 4; i++) {
      all.append(x.round(i)).append(' ');
    }
    for (int s = 0; s < 8; s++) {
      all.append(x.drop(s)).append(' ');
    }
    return all.toString();
  }

  private static void unchanged(String call, BeepNet x, BeepNet twin, long answer, long want) {
    Due.is(call, answer, want);
    boolean found = want <= -1000011 && want >= -1000015;
    Due.is(call + " status()", x.status(), found ? -1000010 - want : STATUS_AHEAD);
    Due.holds(call + " changes nothing", seen(x).equals(seen(twin)));
  }

  private static void refused(String call, long want, ToLongFunction<BeepNet> asked) {
    BeepNet x = rich();
    unchanged(call, x, rich(), asked.applyAsLong(x), want);
  }

  private static void sheetsUnchanged() {
    Due.test(2, "What is refused, or found, changes nothing but status().");
    refused("sheet -1", Due.BAD, x -> x.sheet(-1, 0, 1));
    refused("sheet 8", Due.BAD, x -> x.sheet(8, 0, 1));
    refused("lane -1", Due.BAD, x -> x.sheet(0, -1, 1));
    refused("lane 3", Due.BAD, x -> x.sheet(0, 3, 1));
    refused("n 41", Due.BAD, x -> x.sheet(0, 0, 41));
    refused("n -1, there", Due.SIZE, x -> x.sheet(0, 0, -1));
    refused("n -1, there, another lane", Due.SIZE, x -> x.sheet(0, 2, -1));
    refused("n -1, missing", Due.SIZE, x -> x.sheet(6, 0, -1));
    Due.test(3, "What is refused, or found, changes nothing but status().");
    refused("set, sheet -1", Due.BAD, x -> x.set(-1, 0, 1));
    refused("set, sheet 8", Due.BAD, x -> x.set(8, 0, 1));
    refused("set, missing", Due.NULL, x -> x.set(6, 0, 1));
    refused("set, place -1", Due.PLACE, x -> x.set(0, -1, 1));
    refused("set, place 3", Due.PLACE, x -> x.set(0, 3, 1));
    refused("set, an empty one", Due.PLACE, x -> x.set(2, 0, 1));
    Due.test(5, "What is refused, or found, changes nothing but status().");
    refused("drop(-1)", Due.BAD, x -> x.drop(-1));
    refused("drop(8)", Due.BAD, x -> x.drop(8));
    refused("drop(6)", Due.NULL, x -> x.drop(6));
  }

  private static void copyUnchanged() {
    Due.test(4, "What is refused, or found, changes nothing but status().");
    refused("a -1", Due.BAD, x -> x.copy(-1, 0, 0, 0, 1));
    refused("b 8", Due.BAD, x -> x.copy(0, 0, 8, 0, 1));
    refused("a missing", Due.NULL, x -> x.copy(6, 0, 0, 0, 1));
    refused("b missing", Due.NULL, x -> x.copy(0, 0, 6, 0, 1));
    refused("two lanes", Due.STORE, x -> x.copy(0, 0, 1, 0, 2));
    refused("two lanes, back", Due.STORE, x -> x.copy(1, 0, 0, 0, 2));
    refused("i -1", Due.PLACE, x -> x.copy(0, -1, 3, 0, 2));
    refused("j -1", Due.PLACE, x -> x.copy(0, 0, 3, -1, 2));
    refused("n -1", Due.PLACE, x -> x.copy(0, 1, 3, 1, -1));
    refused("the last beyond the end of b", Due.PLACE, x -> x.copy(0, 0, 3, 0, 3));
    refused("the last beyond the end of a", Due.PLACE, x -> x.copy(0, 2, 3, 0, 2));
    refused("the last beyond its own end", Due.PLACE, x -> x.copy(0, 0, 0, 1, 3));
    refused("n greatest", Due.PLACE, x -> x.copy(0, 1, 3, 1, Due.GREATEST));
  }

  private static void picksUnchanged() {
    Due.test(21, "What is refused, or found, changes nothing but status().");
    refused("sheet 8", Due.BAD, x -> x.picks(8, 0, 1, 1, 0));
    refused("n 0", Due.BAD, x -> x.picks(0, 0, 0, 1, 0));
    refused("n 41", Due.BAD, x -> x.picks(0, 0, 41, 1, 0));
    refused("k 0", Due.BAD, x -> x.picks(0, 0, 1, 0, 0));
    refused("k 5", Due.BAD, x -> x.picks(0, 0, 1, 5, 0));
    refused("what 2", Due.BAD, x -> x.picks(0, 0, 1, 1, 2));
    refused("missing", Due.NULL, x -> x.picks(6, 0, 1, 1, 0));
    refused("i -1", Due.PLACE, x -> x.picks(0, -1, 1, 1, 0));
    refused("n 4", Due.PLACE, x -> x.picks(0, 0, 4, 1, 1));
  }

  private static void netUnchanged() {
    Due.test(6, "What is refused, or found, changes nothing but status().");
    refused("post()", Due.FULL, x -> x.post());
    Due.test(7, "What is refused, or found, changes nothing but status().");
    refused("join(3, 3)", Due.BAD, x -> x.join(3, 3));
    refused("join(8, 0)", Due.BAD, x -> x.join(8, 0));
    refused("join(0, 8)", Due.BAD, x -> x.join(0, 8));
    refused("join(-1, 0)", Due.BAD, x -> x.join(-1, 0));
    refused("join(0, -1)", Due.BAD, x -> x.join(0, -1));
    Due.test(8, "What is refused, or found, changes nothing but status().");
    refused("part(1, 1)", Due.BAD, x -> x.part(1, 1));
    refused("part(8, 0)", Due.BAD, x -> x.part(8, 0));
    refused("part(1, 32)", Due.BAD, x -> x.part(1, 32));
    refused("part(-1, 0)", Due.BAD, x -> x.part(-1, 0));
    Due.test(9, "What is refused, or found, changes nothing but status().");
    refused("far(8, 0)", Due.BAD, x -> x.far(8, 0));
    refused("far(0, 7)", Due.NONE, x -> x.far(0, 7));
    Due.test(10, "What is refused, or found, changes nothing but status().");
    refused("told(8, 0)", Due.BAD, x -> x.told(8, 0));
    refused("told(0, 4)", Due.BAD, x -> x.told(0, 4));
  }

  private static void roundsUnchanged() {
    Due.test(11, "What is refused, or found, changes nothing but status().");
    refused("hears(2, 0)", Due.BAD, x -> x.hears(2, 0));
    refused("hears(0, 256)", Due.BAD, x -> x.hears(0, 256));
    Due.test(12, "What is refused, or found, changes nothing but status().");
    refused("spreads(2, 0, 0)", Due.BAD, x -> x.spreads(2, 0, 0));
    refused("spreads(0, 256, 0)", Due.BAD, x -> x.spreads(0, 256, 0));
    refused("spreads(0, 0, 256)", Due.BAD, x -> x.spreads(0, 0, 256));
    Due.test(16, "What is refused, or found, changes nothing but status().");
    refused("round(3)", Due.NONE, x -> x.round(3));
    refused("round(-1)", Due.NONE, x -> x.round(-1));
    Due.test(17, "What is refused, or found, changes nothing but status().");
    refused("run(2, 0, 0)", Due.BAD, x -> x.run(2, 0, 0));
    refused("run(0, 8, 0)", Due.BAD, x -> x.run(0, 8, 0));
    refused("run(0, 0, 61)", Due.BAD, x -> x.run(0, 0, 61));
  }

  private static void tapeUnchanged() {
    Due.test(13, "What is refused, or found, changes nothing but status().");
    refused("feed, n 0", Due.BAD, x -> x.feed(0x2323232323232323L, 0));
    refused("feed, n 9", Due.BAD, x -> x.feed(0x2323232323232323L, 9));
    refused("feed, n 4", Due.FULL, x -> x.feed(0x2323232323232323L, 4));
    refused("feed, n 8", Due.FULL, x -> x.feed(0x2323232323232323L, 8));
    Due.test(14, "-1000100 less the place of a FAULT: it stays.");
    BeepNet x = rich();
    x.schedule();
    x.copy(0, 0, 1, 0, 1);
    Due.is("a fault", Due.schedule(x, "round 1;#"), -1000108);
    Due.is("status() stays", x.status(), STATUS_AHEAD);
    Due.is("the schedule stays", x.round(0), 66);
    Due.is("the trace stays", x.trace(0), 13);
  }

  private static void searchesUnchanged() {
    Due.test(18, "What is refused, or found, changes nothing but status().");
    refused("least(2, 1, 0)", Due.BAD, x -> x.least(2, 1, 0));
    refused("least(0, 0, 0)", Due.BAD, x -> x.least(0, 0, 0));
    refused("least(0, 256, 0)", Due.BAD, x -> x.least(0, 256, 0));
    refused("least(0, 1, 2)", Due.BAD, x -> x.least(0, 1, 2));
    Due.test(19, "What is refused, or found, changes nothing but status().");
    refused("jammed(2, 0, 0)", Due.BAD, x -> x.jammed(2, 0, 0));
    refused("jammed(0, 8, 0)", Due.BAD, x -> x.jammed(0, 8, 0));
    refused("jammed(0, 0, 6)", Due.BAD, x -> x.jammed(0, 0, 6));
    Due.test(20, "What is refused, or found, changes nothing but status().");
    refused("draws(2, 0, 0)", Due.BAD, x -> x.draws(2, 0, 0));
    refused("draws(0, 8, 0)", Due.BAD, x -> x.draws(0, 8, 0));
    refused("draws(0, 0, 8)", Due.BAD, x -> x.draws(0, 0, 8));
  }

  private static void stateUnchanged() {
    Due.test(17, "STATE: the SCHEDULE is empty.");
    BeepNet x = bare();
    unchanged("run(0, 0, 1)", x, bare(), x.run(0, 0, 1), Due.STATE);
    Due.test(19, "STATE: the SCHEDULE is empty.");
    BeepNet y = bare();
    unchanged("jammed(0, 0, 1)", y, bare(), y.jammed(0, 0, 1), Due.STATE);
  }

  private static void askedUnchanged() {
    Due.test(22, "What is refused, or found, changes nothing but status().");
    refused("kind(8)", Due.BAD, x -> x.kind(8));
    refused("kind(-1)", Due.BAD, x -> x.kind(-1));
    Due.test(23, "What is refused, or found, changes nothing but status().");
    refused("as(8, 0)", Due.BAD, x -> x.as(8, 0));
    refused("as(0, 5)", Due.BAD, x -> x.as(0, 5));
    refused("as(0, -1)", Due.BAD, x -> x.as(0, -1));
    refused("as(0, 4)", Due.KIND, x -> x.as(0, 4));
    refused("as(7, 1)", Due.KIND, x -> x.as(7, 1));
    Due.test(24, "What is refused, or found, changes nothing but status().");
    refused("ask(8, 0)", Due.BAD, x -> x.ask(8, 0));
    refused("ask(-1, 1)", Due.BAD, x -> x.ask(-1, 1));
    refused("ask(0, 2)", Due.BAD, x -> x.ask(0, 2));
    refused("ask(0, -1)", Due.BAD, x -> x.ask(0, -1));
    Due.test(25, "What is refused, or found, changes nothing but status().");
    refused("trace(5)", Due.NONE, x -> x.trace(5));
    refused("trace(-1)", Due.NONE, x -> x.trace(-1));
    Due.test(26, "What is refused, or found, changes nothing but status().");
    refused("count(8)", Due.BAD, x -> x.count(8));
    refused("count(-1)", Due.BAD, x -> x.count(-1));
  }
}
