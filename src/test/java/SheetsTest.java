/** Promises 1 to 5, 21 and 27: sheets, families, status. */
public final class SheetsTest {
  public static void main(String[] args) {
    newObject();
    sheet();
    set();
    setKeepsTheItem();
    copy();
    copyMovesItems();
    drop();
    picks();
    picksOfPosts();
    status();
    statusOfRefusals();
    Due.end();
  }

  private static void newObject() {
    BeepNet x = new BeepNet();
    for (int what = 0; what < 8; what++) {
      Due.is("new count(" + what + ")", x.count(what), 0);
    }
    for (int s = 0; s < 8; s++) {
      Due.is("new drop(" + s + ")", x.drop(s), Due.NULL);
    }
    BeepNet y = new BeepNet();
    Due.is("new status()", y.status(), 0);
    Due.is("new fault()", y.fault(), 0);
    Due.is("new round(0)", y.round(0), Due.NONE);
    Due.is("new trace(0)", y.trace(0), Due.NONE);
    x.post();
    Due.is("another object's posts", y.count(1), 0);
  }

  private static void sheet() {
    BeepNet x = new BeepNet();
    Due.is("sheet(-1)", x.sheet(-1, 0, 1), Due.BAD);
    Due.is("sheet(8)", x.sheet(8, 0, 1), Due.BAD);
    Due.is("lane -1", x.sheet(0, -1, 1), Due.BAD);
    Due.is("lane 3", x.sheet(0, 3, 1), Due.BAD);
    Due.is("n 41", x.sheet(0, 0, 41), Due.BAD);
    Due.is("lane 3, n -1", x.sheet(0, 3, -1), Due.BAD);
    Due.is("sheet 8, n -1", x.sheet(8, 0, -1), Due.BAD);
    Due.is("n -1", x.sheet(0, 0, -1), Due.SIZE);
    Due.is("n least", x.sheet(0, 0, Integer.MIN_VALUE), Due.SIZE);
    Due.is("n greatest", x.sheet(0, 0, Integer.MAX_VALUE), Due.BAD);
    Due.is("none came", x.count(0), 0);
    Due.is("n 0", x.sheet(0, 0, 0), 0);
    Due.is("an empty one is there", x.count(0), 1);
    Due.is("an empty one has no place", x.set(0, 0, 1), Due.PLACE);
    Due.is("n 40", x.sheet(7, 2, 40), 40);
    Due.is("two", x.count(0), 2);
    Due.is("last place", x.set(7, 39, 5), 5);
    Due.is("found: it stays", x.sheet(7, 2, -1), Due.SIZE);
    Due.is("refused: it stays", x.sheet(7, 2, 41), Due.BAD);
    Due.is("it stayed", x.set(7, 39, 5), 5);
    Due.is("in its place", x.sheet(7, 0, 3), 3);
    Due.is("still two", x.count(0), 2);
    Due.is("fewer now", x.set(7, 3, 1), Due.PLACE);
    Due.is("a byte now", x.set(7, 2, 256), 0);

    BeepNet y = Due.net(8);
    y.sheet(0, 0, 2);
    y.set(0, 0, 3);
    y.set(0, 1, 5);
    y.sheet(0, 0, -1);
    Due.is("found: items stay", Due.bits(y, 0, 0, 1), 5);
    y.sheet(0, 0, 2);
    Due.is("0 at first, again", Due.bits(y, 0, 0, 0), 0);
    Due.is("0 at first, again", Due.bits(y, 0, 0, 1), 0);
  }

  private static void set() {
    BeepNet x = new BeepNet();
    Due.is("missing", x.set(0, 0, 1), Due.NULL);
    Due.is("missing, no such place", x.set(0, -1, 1), Due.NULL);
    Due.is("set(-1)", x.set(-1, 0, 1), Due.BAD);
    Due.is("set(8)", x.set(8, 0, 1), Due.BAD);
    x.sheet(0, 0, 2);
    x.sheet(1, 1, 2);
    x.sheet(2, 2, 2);
    Due.is("place -1", x.set(0, -1, 1), Due.PLACE);
    Due.is("place 2", x.set(0, 2, 1), Due.PLACE);
    Due.is("place greatest", x.set(0, Integer.MAX_VALUE, 1), Due.PLACE);
    Due.is("byte 127", x.set(0, 1, 127), 127);
    Due.is("byte 128", x.set(0, 1, 128), -128);
    Due.is("byte 300", x.set(0, 1, 300), 44);
    Due.is("byte -129", x.set(0, 1, -129), 127);
    Due.is("short 32767", x.set(1, 0, 32767), 32767);
    Due.is("short 32768", x.set(1, 0, 32768), -32768);
    Due.is("short 65537", x.set(1, 0, 65537), 1);
    Due.is("int least", x.set(2, 0, Integer.MIN_VALUE), Integer.MIN_VALUE);
    Due.is("int 65537", x.set(2, 0, 65537), 65537);
  }

  private static void setKeepsTheItem() {
    BeepNet x = Due.net(8);
    for (int lane = 0; lane < 3; lane++) {
      x.sheet(lane, lane, 3);
      x.set(lane, 1, 0x5A5A5AA5);
      Due.is("item 0", Due.bits(x, lane, lane, 0), 0);
      Due.is("item 1", Due.bits(x, lane, lane, 1), 0xA5);
      Due.is("item 2", Due.bits(x, lane, lane, 2), 0);
      x.set(lane, 3, 1);
      Due.is("item 1 stays", Due.bits(x, lane, lane, 1), 0xA5);
    }
  }

  private static void copy() {
    BeepNet x = new BeepNet();
    Due.is("a -1", x.copy(-1, 0, 0, 0, 0), Due.BAD);
    Due.is("a 8", x.copy(8, 0, 0, 0, 0), Due.BAD);
    Due.is("b -1", x.copy(0, 0, -1, 0, 0), Due.BAD);
    Due.is("b 8", x.copy(0, 0, 8, 0, 0), Due.BAD);
    x.sheet(0, 0, 4);
    Due.is("b missing", x.copy(0, 0, 1, 0, 1), Due.NULL);
    Due.is("a missing", x.copy(1, 0, 0, 0, 1), Due.NULL);
    Due.is("missing ahead of place", x.copy(0, -1, 1, 0, 1), Due.NULL);
    x.sheet(1, 1, 4);
    Due.is("two lanes", x.copy(0, 0, 1, 0, 1), Due.STORE);
    Due.is("two lanes, none", x.copy(0, 0, 1, 0, 0), Due.STORE);
    Due.is("two lanes ahead of place", x.copy(0, 9, 1, 0, 1), Due.STORE);
    x.sheet(1, 0, 3);
    Due.is("i -1", x.copy(0, -1, 1, 0, 1), Due.PLACE);
    Due.is("j -1", x.copy(0, 0, 1, -1, 1), Due.PLACE);
    Due.is("n -1", x.copy(0, 1, 1, 1, -1), Due.PLACE);
    Due.is("beyond a", x.copy(0, 3, 1, 0, 2), Due.PLACE);
    Due.is("beyond b", x.copy(0, 0, 1, 0, 4), Due.PLACE);
    Due.is("wraps around", x.copy(0, 2, 1, 0, Integer.MAX_VALUE), Due.PLACE);
    Due.is("wraps around", x.copy(0, Integer.MAX_VALUE, 1, 0, 1), Due.PLACE);
    Due.is("wraps around", x.copy(0, 0, 1, Integer.MAX_VALUE, 1), Due.PLACE);
    Due.is("none at the ends", x.copy(0, 4, 1, 3, 0), 0);
    Due.is("none behind an end", x.copy(0, 5, 1, 3, 0), Due.PLACE);
    Due.is("none behind an end", x.copy(0, 4, 1, 4, 0), Due.PLACE);
    Due.is("all", x.copy(0, 1, 1, 0, 3), 3);
    Due.is("to itself", x.copy(0, 0, 0, 0, 4), 4);
  }

  private static void copyMovesItems() {
    BeepNet x = Due.net(8);
    int[] up = {1, 1, 2, 4, 16};
    int[] down = {2, 4, 8, 8, 16};
    for (int lane = 0; lane < 3; lane++) {
      fillOnes(x, lane);
      x.copy(0, 0, 0, 1, 3);
      hasItems(x, lane, up);
      fillOnes(x, lane);
      x.copy(0, 1, 0, 0, 3);
      hasItems(x, lane, down);
      x.sheet(1, lane, 2);
      x.set(1, 0, 64);
      x.copy(1, 0, 0, 2, 2);
      hasItems(x, lane, new int[] {2, 4, 64, 0, 16});
      x.copy(1, 0, 0, 4, 2);
      hasItems(x, lane, new int[] {2, 4, 64, 0, 16});
      Due.is("what is copied stays", Due.bits(x, 1, lane, 0), 64);
    }
  }

  private static void fillOnes(BeepNet x, int lane) {
    x.sheet(0, lane, 5);
    for (int i = 0; i < 5; i++) {
      x.set(0, i, 1 << i);
    }
  }

  private static void hasItems(BeepNet x, int lane, int[] want) {
    for (int i = 0; i < want.length; i++) {
      Due.is("lane " + lane + ", item " + i, Due.bits(x, 0, lane, i), want[i]);
    }
  }

  private static void drop() {
    BeepNet x = new BeepNet();
    Due.is("drop(-1)", x.drop(-1), Due.BAD);
    Due.is("drop(8)", x.drop(8), Due.BAD);
    Due.is("missing", x.drop(3), Due.NULL);
    x.sheet(3, 1, 40);
    x.sheet(4, 1, 0);
    Due.is("40", x.drop(3), 40);
    Due.is("0", x.drop(4), 0);
    Due.is("missing now", x.drop(3), Due.NULL);
    Due.is("missing now", x.set(3, 0, 0), Due.NULL);
    Due.is("none", x.count(0), 0);
    x.sheet(3, 1, 2);
    Due.is("there again", x.drop(3), 2);
  }

  private static void picks() {
    BeepNet x = Due.net(3);
    Due.is("missing", x.picks(0, 0, 1, 1, 0), Due.NULL);
    x.sheet(0, 1, 3);
    Due.is("sheet -1", x.picks(-1, 0, 1, 1, 0), Due.BAD);
    Due.is("sheet 8", x.picks(8, 0, 1, 1, 0), Due.BAD);
    Due.is("n 0", x.picks(0, 0, 0, 1, 0), Due.BAD);
    Due.is("n 41", x.picks(0, 0, 41, 1, 0), Due.BAD);
    Due.is("k 0", x.picks(0, 0, 1, 0, 0), Due.BAD);
    Due.is("k 5", x.picks(0, 0, 1, 5, 0), Due.BAD);
    Due.is("what -1", x.picks(0, 0, 1, 1, -1), Due.BAD);
    Due.is("what 2", x.picks(0, 0, 1, 1, 2), Due.BAD);
    Due.is("BAD ahead of missing", x.picks(1, 0, 1, 5, 0), Due.BAD);
    Due.is("i -1", x.picks(0, -1, 1, 1, 0), Due.PLACE);
    Due.is("i 3", x.picks(0, 3, 1, 1, 0), Due.PLACE);
    Due.is("n 4", x.picks(0, 0, 4, 1, 0), Due.PLACE);
    Due.is("i greatest", x.picks(0, Integer.MAX_VALUE, 40, 1, 0), Due.PLACE);
    x.set(0, 0, 3);
    x.set(0, 1, 4);
    Due.is("each one is in some set", x.picks(0, 0, 2, 1, 0), 1);
    Due.is("each one is in some set", x.picks(0, 0, 2, 1, 1), Due.NONE);
    Due.is("of 0 and 1 there are two or none", x.picks(0, 0, 2, 2, 0), 0);
    Due.is("of 0 and 1 there are two or none", x.picks(0, 0, 2, 2, 1), 3);
    Due.is("the other set alone", x.picks(0, 1, 1, 1, 1), 1);
    x.set(0, 2, 1);
    Due.is("told apart", x.picks(0, 0, 3, 4, 1), Due.NONE);
    x.set(0, 0, -1);
    x.set(0, 1, 1 << 9);
    Due.is("only bits of posts count", x.picks(0, 0, 2, 1, 1), Due.NONE);
    Due.is("all three at once, k 2", x.picks(0, 0, 2, 2, 1), 3);
    x.post();
    Due.is("a new post is in the set of all", x.picks(0, 0, 1, 1, 1), Due.NONE);
    Due.is("a new post is in no other", x.picks(0, 1, 2, 1, 1), 2);
  }

  private static void picksOfPosts() {
    BeepNet x = new BeepNet();
    x.sheet(0, 2, 40);
    Due.is("no posts, no few", x.picks(0, 0, 40, 4, 0), 1);
    Due.is("no posts, no few", x.picks(0, 0, 40, 4, 1), Due.NONE);
    x.post();
    Due.is("one post, in none", x.picks(0, 0, 40, 1, 1), 1);
    x.set(0, 39, 1);
    Due.is("one post, in the last", x.picks(0, 0, 40, 4, 0), 1);
    Due.is("one post, in the last", x.picks(0, 39, 1, 4, 0), 1);
    Due.is("one post, not ahead of it", x.picks(0, 0, 39, 4, 0), 0);
  }

  private static void status() {
    BeepNet x = Due.net(2);
    x.sheet(0, 0, -1);
    Due.is("SIZE", x.status(), 4);
    x.sheet(0, 0, 2);
    Due.is("sheet", x.status(), 0);
    x.set(0, 2, 0);
    Due.is("PLACE", x.status(), 2);
    x.set(0, 1, 0);
    Due.is("set", x.status(), 0);
    x.drop(1);
    Due.is("NULL", x.status(), 1);
    x.drop(0);
    Due.is("drop", x.status(), 0);
    x.sheet(0, 0, 2);
    x.sheet(1, 1, 2);
    x.copy(0, 0, 1, 0, 1);
    Due.is("STORE", x.status(), 5);
    x.copy(0, 0, 0, 1, 1);
    Due.is("copy", x.status(), 0);
    x.as(0, 3);
    Due.is("KIND", x.status(), 3);
    x.as(0, 4);
    Due.is("as", x.status(), 0);
    x.picks(0, 0, 3, 1, 0);
    Due.is("PLACE", x.status(), 2);
    x.picks(0, 0, 2, 1, 0);
    Due.is("picks", x.status(), 0);
  }

  private static void statusOfRefusals() {
    BeepNet x = Due.net(8);
    x.sheet(0, 0, 2);
    x.drop(5);
    x.sheet(0, 9, 1);
    x.set(9, 0, 0);
    x.copy(0, 0, 9, 0, 0);
    x.drop(-1);
    x.picks(0, 0, 0, 1, 1);
    x.as(0, 5);
    x.as(8, 0);
    Due.is("BAD leaves it", x.status(), 1);
    x.post();
    x.join(0, 1);
    x.run(0, 0, 1);
    x.told(0, 0);
    x.ask(0, 0);
    x.kind(0);
    x.schedule();
    x.count(0);
    x.least(0, 1, 0);
    x.draws(0, 0, 1);
    Due.is("other calls leave it", x.status(), 1);
    Due.is("asked again", x.status(), 1);
  }
}
