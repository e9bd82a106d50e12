/** Promises 1 to 5, 21 and 27, sentence by sentence: sheets, families, status. */
public final class SheetsTest {
  public static void main(String[] args) {
    newObject();
    sheetNumbers();
    lanes();
    howManyItems();
    itemsAtFirst();
    sheet();
    sheetRefused();
    set();
    setRefused();
    copy();
    copyWithinOne();
    copyRefused();
    copyBeyondAnEnd();
    drop();
    dropRefused();
    picks();
    picksRefused();
    picksBitsOfPosts();
    families();
    howManySets();
    firstSet();
    status();
    statusOfNone();
    Due.end();
  }

  private static void newObject() {
    Due.test(1, "No SHEETS, POSTS; an empty SCHEDULE.");
    BeepNet old = Due.net(3, 0, 1);
    old.sheet(0, 0, 4);
    Due.schedule(old, "all;");
    Due.schedule(old, "#");
    old.ask(0, 0);
    BeepNet x = new BeepNet();
    for (int what = 0; what < 8; what++) {
      Due.is("count(" + what + ")", x.count(what), 0);
    }
    Due.is("status()", x.status(), 0);
    Due.is("fault()", x.fault(), 0);
    Due.is("round(0)", x.round(0), Due.NONE);
    Due.is("trace(0)", x.trace(0), Due.NONE);
    Due.is("schedule()", x.schedule(), 0);
    for (int i = 0; i < 8; i++) {
      Due.is("drop(" + i + ")", x.drop(i), Due.NULL);
      Due.is("kind(" + i + ")", x.kind(i), Due.BAD);
    }
    Due.is("the first post", x.post(), 0);
    Due.is("the other object's posts", old.count(1), 3);
  }

  private static void sheetNumbers() {
    Due.test(5, "SHEETS 0 .. 7 are missing (at first),");
    BeepNet x = new BeepNet();
    Due.is("drop(-1)", x.drop(-1), Due.BAD);
    for (int s = 0; s < 8; s++) {
      Due.is("drop(" + s + ")", x.drop(s), Due.NULL);
    }
    Due.is("drop(8)", x.drop(8), Due.BAD);
    for (int s = 0; s < 8; s++) {
      Due.is("sheet(" + s + ")", x.sheet(s, s % 3, s), s);
      Due.is("count(0)", x.count(0), s + 1);
    }
    for (int s = 0; s < 8; s++) {
      Due.is("drop(" + s + ")", x.drop(s), s);
      Due.is("count(0)", x.count(0), 7 - s);
    }
  }

  private static void lanes() {
    Due.test(2, "or have a LANE (0 bytes, 1 shorts, 2 ints)");
    BeepNet x = new BeepNet();
    Due.is("lane -1", x.sheet(0, -1, 1), Due.BAD);
    Due.is("lane least", x.sheet(0, Due.LEAST, 1), Due.BAD);
    for (int lane = 0; lane < 3; lane++) {
      Due.is("lane " + lane, x.sheet(lane, lane, 1), 1);
    }
    Due.is("lane 3", x.sheet(0, 3, 1), Due.BAD);
    Due.is("lane greatest", x.sheet(0, Due.GREATEST, 1), Due.BAD);
    Due.is("a byte", x.set(0, 0, 65536 + 256 + 1), 1);
    Due.is("a short", x.set(1, 0, 65536 + 256 + 1), 257);
    Due.is("an int", x.set(2, 0, 65536 + 256 + 1), 65793);
  }

  private static void howManyItems() {
    Due.test(2, "and 0 to 40 ITEMS,");
    for (int lane = 0; lane < 3; lane++) {
      BeepNet x = new BeepNet();
      Due.is("n -1", x.sheet(0, lane, -1), Due.SIZE);
      Due.is("n least", x.sheet(0, lane, Due.LEAST), Due.SIZE);
      for (int n = 0; n <= 40; n++) {
        Due.is("n " + n, x.sheet(0, lane, n), n);
        Due.is("the last of " + n, x.set(0, n - 1, 7), n == 0 ? Due.PLACE : 7);
        Due.is("behind the last of " + n, x.set(0, n, 7), Due.PLACE);
      }
      Due.is("n 41", x.sheet(0, lane, 41), Due.BAD);
      Due.is("n greatest", x.sheet(0, lane, Due.GREATEST), Due.BAD);
      Due.is("40 stay", x.drop(0), 40);
    }
  }

  private static void itemsAtFirst() {
    Due.test(2, "0 at first.");
    for (int lane = 0; lane < 3; lane++) {
      BeepNet x = Due.net(8);
      x.sheet(0, lane, 3);
      Due.items(x, 0, lane, 0, 0, 0);
      x.set(0, 0, -1);
      x.set(0, 2, -1);
      x.sheet(0, lane, 3);
      Due.items(x, 0, lane, 0, 0, 0);
      x.set(0, 1, -1);
      x.drop(0);
      x.sheet(0, lane, 2);
      x.sheet(0, lane, 3);
      Due.items(x, 0, lane, 0, 0, 0);
    }
    BeepNet y = Due.net(1);
    y.sheet(0, 2, 40);
    for (int i = 0; i < 40; i++) {
      Due.is("item " + i + " of 40", y.picks(0, i, 1, 1, 0), 0);
      y.set(0, i, 1);
    }
    y.sheet(0, 2, 40);
    for (int i = 0; i < 40; i++) {
      Due.is("item " + i + " of 40 anew", y.picks(0, i, 1, 1, 0), 0);
    }
  }

  private static void sheet() {
    Due.test(2, "A SHEET of a LANE with n ITEMS, in place of what is there: n.");
    BeepNet x = new BeepNet();
    Due.is("an empty one", x.sheet(0, 0, 0), 0);
    Due.is("an empty one is there", x.count(0), 1);
    Due.is("more", x.sheet(0, 2, 40), 40);
    Due.is("still one", x.count(0), 1);
    Due.is("ints now", x.set(0, 39, 70000), 70000);
    Due.is("fewer", x.sheet(0, 0, 3), 3);
    Due.is("still one", x.count(0), 1);
    Due.is("fewer now", x.set(0, 3, 1), Due.PLACE);
    Due.is("bytes now", x.set(0, 2, 256), 0);
    Due.is("another", x.sheet(7, 1, 5), 5);
    Due.is("two", x.count(0), 2);
    Due.is("the first is as it was", x.drop(0), 3);
    Due.is("shorts", x.set(7, 4, 32768), -32768);
  }

  private static void sheetRefused() {
    Due.test(2, "BAD: SHEET, LANE, n above 40; SIZE.");
    BeepNet x = new BeepNet();
    Due.is("sheet -1", x.sheet(-1, 0, 1), Due.BAD);
    Due.is("sheet 8", x.sheet(8, 0, 1), Due.BAD);
    Due.is("sheet least", x.sheet(Due.LEAST, 0, 1), Due.BAD);
    Due.is("sheet greatest", x.sheet(Due.GREATEST, 0, 1), Due.BAD);
    Due.is("lane -1", x.sheet(0, -1, 1), Due.BAD);
    Due.is("lane 3", x.sheet(0, 3, 1), Due.BAD);
    Due.is("n 41", x.sheet(0, 0, 41), Due.BAD);
    Due.is("n -1", x.sheet(0, 0, -1), Due.SIZE);
    Due.is("status()", x.status(), 4);
    Due.is("sheet 8, n -1", x.sheet(8, 0, -1), Due.BAD);
    Due.is("lane 3, n -1", x.sheet(0, 3, -1), Due.BAD);
    Due.is("none came", x.count(0), 0);
  }

  private static void set() {
    Due.test(3, "ITEM i becomes v, its lowest bits, as many as the LANE has: what it is then.");
    int[] values = {
      0, 1, -1, 127, 128, -128, -129, 255, 256, 300, 32767, 32768, -32768, -32769, 65535, 65536, 65537, 0x5A5A5AA5,
      Due.LEAST, Due.GREATEST,
    };
    BeepNet x = new BeepNet();
    for (int lane = 0; lane < 3; lane++) {
      x.sheet(lane, lane, 3);
    }
    for (int v : values) {
      Due.is("byte " + v, x.set(0, 1, v), (v & 255) - (v << 1 & 256));
      Due.is("short " + v, x.set(1, 1, v), (v & 65535) - (v << 1 & 65536));
      Due.is("int " + v, x.set(2, 1, v), v);
    }
    BeepNet y = Due.net(8);
    for (int lane = 0; lane < 3; lane++) {
      y.sheet(lane, lane, 3);
      y.set(lane, 1, 0x5A5A5AA5);
      Due.items(y, lane, lane, 0, 0xA5, 0);
    }
  }

  private static void setRefused() {
    Due.test(3, "BAD: SHEET; NULL; PLACE.");
    BeepNet x = Due.net(8);
    Due.is("sheet -1", x.set(-1, 0, 1), Due.BAD);
    Due.is("sheet 8", x.set(8, 0, 1), Due.BAD);
    Due.is("missing", x.set(0, 0, 1), Due.NULL);
    Due.is("status()", x.status(), 1);
    Due.is("missing, ahead of place", x.set(0, -1, 1), Due.NULL);
    x.sheet(0, 0, 2);
    x.set(0, 0, 5);
    Due.is("place -1", x.set(0, -1, 1), Due.PLACE);
    Due.is("status()", x.status(), 2);
    Due.is("place 2", x.set(0, 2, 1), Due.PLACE);
    Due.is("place least", x.set(0, Due.LEAST, 1), Due.PLACE);
    Due.is("place greatest", x.set(0, Due.GREATEST, 1), Due.PLACE);
    Due.items(x, 0, 0, 5, 0);
    x.sheet(1, 0, 0);
    Due.is("an empty one has no place", x.set(1, 0, 1), Due.PLACE);
    x.drop(0);
    Due.is("missing again", x.set(0, 0, 1), Due.NULL);
  }

  private static void copy() {
    Due.test(4, "n ITEMS of a from i on come to b from j on, as they were ahead: n.");
    for (int lane = 0; lane < 3; lane++) {
      BeepNet x = ones(lane);
      x.sheet(1, lane, 3);
      Due.is("two", x.copy(0, 3, 1, 1, 2), 2);
      Due.items(x, 1, lane, 0, 8, 16);
      Due.is("none, at both ends", x.copy(0, 5, 1, 3, 0), 0);
      Due.is("none, at the beginning", x.copy(0, 0, 1, 0, 0), 0);
      Due.items(x, 1, lane, 0, 8, 16);
      Due.is("all of b", x.copy(0, 0, 1, 0, 3), 3);
      Due.items(x, 1, lane, 1, 2, 4);
      Due.items(x, 0, lane, 1, 2, 4, 8, 16);
    }
    BeepNet y = new BeepNet();
    y.sheet(0, 2, 40);
    y.sheet(1, 2, 40);
    Due.is("40", y.copy(0, 0, 1, 0, 40), 40);
    y.sheet(2, 2, 0);
    Due.is("none of none", y.copy(2, 0, 2, 0, 0), 0);
  }

  private static BeepNet ones(int lane) {
    BeepNet x = Due.net(8);
    x.sheet(0, lane, 5);
    for (int i = 0; i < 5; i++) {
      x.set(0, i, 1 << i);
    }
    return x;
  }

  private static void copyWithinOne() {
    Due.test(4, "as they were ahead: n.");
    for (int lane = 0; lane < 3; lane++) {
      BeepNet up = ones(lane);
      Due.is("up by one", up.copy(0, 0, 0, 1, 4), 4);
      Due.items(up, 0, lane, 1, 1, 2, 4, 8);
      BeepNet down = ones(lane);
      Due.is("down by one", down.copy(0, 1, 0, 0, 4), 4);
      Due.items(down, 0, lane, 2, 4, 8, 16, 16);
      BeepNet same = ones(lane);
      Due.is("to itself", same.copy(0, 0, 0, 0, 5), 5);
      Due.items(same, 0, lane, 1, 2, 4, 8, 16);
    }
  }

  private static void copyRefused() {
    Due.test(4, "BAD: SHEETS; NULL; STORE;");
    BeepNet x = new BeepNet();
    int[] wrong = {-1, 8, Due.LEAST, Due.GREATEST};
    for (int s : wrong) {
      Due.is("a " + s, x.copy(s, 0, 0, 0, 0), Due.BAD);
      Due.is("b " + s, x.copy(0, 0, s, 0, 0), Due.BAD);
    }
    Due.is("both missing", x.copy(0, 0, 1, 0, 0), Due.NULL);
    x.sheet(0, 0, 4);
    Due.is("b missing", x.copy(0, 0, 1, 0, 1), Due.NULL);
    Due.is("a missing", x.copy(1, 0, 0, 0, 1), Due.NULL);
    Due.is("status()", x.status(), 1);
    Due.is("missing, ahead of place", x.copy(0, -1, 1, 0, 1), Due.NULL);
    for (int a = 0; a < 3; a++) {
      for (int b = 0; b < 3; b++) {
        x.sheet(2, a, 4);
        x.sheet(3, b, 4);
        Due.is("lanes " + a + ", " + b, x.copy(2, 0, 3, 0, 4), a == b ? 4 : Due.STORE);
        Due.is("status()", x.status(), a == b ? 0 : 5);
        Due.is("lanes " + a + ", " + b + ", none", x.copy(2, 0, 3, 0, 0), a == b ? 0 : Due.STORE);
        Due.is("lanes " + a + ", " + b + ", n -1", x.copy(2, 0, 3, 0, -1), a == b ? Due.PLACE : Due.STORE);
        Due.is("lanes " + a + ", " + b + ", i 9", x.copy(2, 9, 3, 0, 1), a == b ? Due.PLACE : Due.STORE);
      }
    }
  }

  private static void copyBeyondAnEnd() {
    Due.test(4, "PLACE (i, j, n below 0, or beyond an end).");
    BeepNet x = ones(2);
    x.sheet(1, 2, 3);
    int[][] wrong = {
      {-1, 0, 1}, {-1, 0, 0}, {Due.LEAST, 0, 1}, {0, -1, 1}, {0, -1, 0}, {0, Due.LEAST, 1}, {1, 1, -1}, {5, 3, -1},
      {0, 0, Due.LEAST}, {5, 0, 1}, {3, 0, 3}, {0, 3, 1}, {0, 1, 3}, {0, 0, 4}, {0, 0, 6}, {6, 0, 0}, {0, 4, 0},
      {2, 0, Due.GREATEST}, {0, 2, Due.GREATEST}, {Due.GREATEST, 0, 1}, {0, Due.GREATEST, 1},
      {Due.GREATEST, Due.GREATEST, Due.GREATEST}, {1, 1, Due.GREATEST},
    };
    for (int[] w : wrong) {
      String call = "copy(0, " + w[0] + ", 1, " + w[1] + ", " + w[2] + ")";
      Due.is(call, x.copy(0, w[0], 1, w[1], w[2]), Due.PLACE);
      Due.is(call + " status()", x.status(), 2);
    }
    Due.items(x, 1, 2, 0, 0, 0);
    Due.items(x, 0, 2, 1, 2, 4, 8, 16);
    Due.is("within one, beyond its end", x.copy(0, 0, 0, 1, 5), Due.PLACE);
    Due.is("up to both ends", x.copy(0, 2, 1, 0, 3), 3);
  }

  private static void drop() {
    Due.test(5, "A SHEET is missing from now on: how many ITEMS it had.");
    BeepNet x = new BeepNet();
    x.sheet(3, 1, 40);
    x.sheet(4, 1, 0);
    x.sheet(5, 2, 7);
    Due.is("40", x.drop(3), 40);
    Due.is("two more", x.count(0), 2);
    Due.is("0", x.drop(4), 0);
    Due.is("set", x.set(3, 0, 0), Due.NULL);
    Due.is("copy", x.copy(3, 0, 3, 0, 0), Due.NULL);
    Due.is("picks", x.picks(3, 0, 1, 1, 0), Due.NULL);
    Due.is("an empty one, too", x.drop(4), Due.NULL);
    Due.is("the other is there", x.set(5, 6, 3), 3);
    Due.is("one", x.count(0), 1);
    x.sheet(3, 1, 2);
    Due.is("there again", x.drop(3), 2);
  }

  private static void dropRefused() {
    Due.test(5, "BAD; NULL.");
    BeepNet x = new BeepNet();
    x.sheet(0, 0, 1);
    x.sheet(7, 0, 1);
    int[] wrong = {-1, 8, Due.LEAST, Due.GREATEST};
    for (int s : wrong) {
      Due.is("drop(" + s + ")", x.drop(s), Due.BAD);
    }
    Due.is("missing", x.drop(3), Due.NULL);
    Due.is("status()", x.status(), 1);
    Due.is("both are there", x.count(0), 2);
    Due.is("drop(0)", x.drop(0), 1);
    Due.is("drop(0) again", x.drop(0), Due.NULL);
  }

  private static void picks() {
    Due.test(21, "Whether n ITEMS of a SHEET from i on PICK from each few of k (what = 0: 1, 0),");
    BeepNet x = Due.net(3);
    x.sheet(0, 1, 4);
    x.set(0, 0, 3);
    x.set(0, 1, 4);
    x.set(0, 2, 1);
    Due.is("each one is in some set", x.picks(0, 0, 2, 1, 0), 1);
    Due.is("of 0 and 1 there are two or none", x.picks(0, 0, 2, 2, 0), 0);
    Due.is("told apart", x.picks(0, 0, 3, 2, 0), 1);
    Due.is("told apart", x.picks(0, 0, 3, 4, 0), 1);
    Due.is("from 1 on", x.picks(0, 1, 2, 1, 0), 0);
    Due.is("from 1 on, to the end", x.picks(0, 1, 3, 1, 0), 0);
    Due.is("the last alone, none in it", x.picks(0, 3, 1, 1, 0), 0);

    Due.test(21, "the first set from which they do not (1; NONE: they do).");
    Due.is("each one is in some set", x.picks(0, 0, 2, 1, 1), Due.NONE);
    Due.is("of 0 and 1 there are two or none", x.picks(0, 0, 2, 2, 1), 3);
    Due.is("told apart", x.picks(0, 0, 3, 4, 1), Due.NONE);
    Due.is("from 1 on", x.picks(0, 1, 2, 1, 1), 2);
    Due.is("the last alone, none in it", x.picks(0, 3, 1, 1, 1), 1);
  }

  private static void picksRefused() {
    Due.test(21, "BAD: SHEET, n, k, what; NULL; PLACE.");
    BeepNet x = Due.net(3);
    x.sheet(0, 1, 3);
    int[] wrongSheets = {-1, 8, Due.LEAST, Due.GREATEST};
    for (int s : wrongSheets) {
      Due.is("sheet " + s, x.picks(s, 0, 1, 1, 0), Due.BAD);
    }
    int[] wrongSizes = {0, -1, 41, Due.LEAST, Due.GREATEST};
    for (int n : wrongSizes) {
      Due.is("n " + n, x.picks(0, 0, n, 1, 0), Due.BAD);
      Due.is("n " + n + ", ahead of missing", x.picks(1, 0, n, 1, 0), Due.BAD);
    }
    int[] wrongFew = {0, -1, 5, Due.LEAST, Due.GREATEST};
    for (int k : wrongFew) {
      Due.is("k " + k, x.picks(0, 0, 1, k, 0), Due.BAD);
      Due.is("k " + k + ", ahead of place", x.picks(0, 3, 1, k, 0), Due.BAD);
    }
    int[] wrongWhat = {-1, 2, Due.LEAST, Due.GREATEST};
    for (int what : wrongWhat) {
      Due.is("what " + what, x.picks(0, 0, 1, 1, what), Due.BAD);
      Due.is("what " + what + ", ahead of missing", x.picks(1, 0, 1, 1, what), Due.BAD);
    }
    Due.is("missing", x.picks(1, 0, 1, 1, 0), Due.NULL);
    Due.is("missing, ahead of place", x.picks(1, -1, 1, 1, 1), Due.NULL);
    Due.is("status()", x.status(), 1);
    int[][] wrongPlaces = {
      {-1, 1}, {Due.LEAST, 1}, {3, 1}, {2, 2}, {1, 3}, {0, 4}, {0, 40}, {Due.GREATEST, 1}, {Due.GREATEST, 40},
    };
    for (int[] w : wrongPlaces) {
      Due.is("i " + w[0] + ", n " + w[1], x.picks(0, w[0], w[1], 1, 0), Due.PLACE);
      Due.is("status()", x.status(), 2);
    }
    x.sheet(1, 0, 0);
    Due.is("an empty one", x.picks(1, 0, 1, 1, 0), Due.PLACE);
    Due.is("up to the end", x.picks(0, 2, 1, 1, 0), 0);
    Due.is("status()", x.status(), 0);
  }

  private static void picksBitsOfPosts() {
    Due.test(21, "(ITEMS: only bits of POSTS count.)");
    for (int lane = 0; lane < 3; lane++) {
      BeepNet x = Due.net(3);
      x.sheet(0, lane, 2);
      x.set(0, 0, -1);
      x.set(0, 1, -8);
      Due.is("all three, none", x.picks(0, 0, 2, 1, 1), Due.NONE);
      Due.is("all three, none: k 2", x.picks(0, 0, 2, 2, 1), 3);
      Due.is("none of them", x.picks(0, 1, 1, 1, 1), 1);
      x.post();
      Due.is("post 3 is in both", x.picks(0, 1, 1, 1, 1), 1);
      Due.is("post 3 told from post 0", x.picks(0, 0, 2, 2, 1), 3);
      x.set(0, 1, 3);
      Due.is("post 3 is in the first", x.picks(0, 0, 1, 1, 1), Due.NONE);
      Due.is("post 3 told from post 2 by none", x.picks(0, 0, 2, 2, 1), 3);
    }
    BeepNet y = Due.net(1);
    y.sheet(0, 2, 1);
    y.set(0, 0, Due.LEAST | 1 | 256);
    Due.is("one bit of a post", y.picks(0, 0, 1, 4, 0), 1);
  }

  private static void families() {
    Due.test(21, "it PICKS from each few of k (1 to 4): from each set of 1 to k POSTS some set of the family has just one.");
    BeepNet x = Due.net(8);
    x.sheet(0, 0, 8);
    for (int p = 0; p < 8; p++) {
      x.set(0, p, 1 << p);
    }
    for (int k = 1; k <= 4; k++) {
      Due.is("each alone, k " + k, x.picks(0, 0, 8, k, 0), 1);
      Due.is("but post 7, k " + k, x.picks(0, 0, 7, k, 0), 0);
      Due.is("but post 7, k " + k, x.picks(0, 0, 7, k, 1), 128);
    }
    // each family picks from all of fewer than the few that it fails on
    BeepNet y = Due.net(5);
    y.sheet(0, 0, 4);
    y.set(0, 0, 31);
    fails(y, 1, 2, 3);
    y.sheet(0, 0, 4);
    y.set(0, 0, 0b10011);
    y.set(0, 1, 0b10101);
    y.set(0, 2, 0b01111);
    fails(y, 3, 3, 7);
    BeepNet z = Due.net(4);
    z.sheet(0, 0, 3);
    z.set(0, 0, 0b0011);
    z.set(0, 1, 0b0101);
    z.set(0, 2, 0b1001);
    fails(z, 3, 4, 15);
  }

  private static void fails(BeepNet x, int n, int atFew, int first) {
    for (int k = 1; k <= 4; k++) {
      Due.is(n + " sets, k " + k, x.picks(0, 0, n, k, 0), k < atFew ? 1 : 0);
      Due.is(n + " sets, k " + k, x.picks(0, 0, n, k, 1), k < atFew ? Due.NONE : first);
    }
  }

  private static void howManySets() {
    Due.test(21, "FAMILIES: n sets (1 to 40), ITEMS of a SHEET:");
    BeepNet x = new BeepNet();
    x.sheet(0, 2, 40);
    Due.is("no posts, no few", x.picks(0, 0, 40, 4, 0), 1);
    Due.is("no posts, no few", x.picks(0, 0, 1, 1, 1), Due.NONE);
    x.post();
    Due.is("one post, in none of 40", x.picks(0, 0, 40, 1, 1), 1);
    x.set(0, 39, 1);
    Due.is("in the last of 40", x.picks(0, 0, 40, 4, 0), 1);
    Due.is("in one set", x.picks(0, 39, 1, 4, 0), 1);
    Due.is("not ahead of it", x.picks(0, 0, 39, 4, 0), 0);
    Due.is("n 0", x.picks(0, 0, 0, 1, 0), Due.BAD);
    Due.is("n 41", x.picks(0, 0, 41, 1, 0), Due.BAD);
  }

  private static void firstSet() {
    Due.test(21, "The first set of POSTS (as a number) from which none does.");
    BeepNet x = Due.net(4);
    x.sheet(0, 0, 3);
    x.set(0, 0, 0b0011);
    x.set(0, 1, 0b1100);
    Due.is("3 comes ahead of 12", x.picks(0, 0, 2, 2, 1), 3);
    x.set(0, 2, 0b0001);
    Due.is("12", x.picks(0, 0, 3, 2, 1), 12);
    x.set(0, 1, 0b0100);
    Due.is("8 alone", x.picks(0, 0, 3, 2, 1), 8);
    x.set(0, 1, 0b1000);
    Due.is("4 comes ahead of 3", x.picks(0, 0, 2, 1, 1), 4);
    Due.is("3 comes ahead of 4", x.picks(0, 0, 2, 2, 1), 3);
  }

  private static void status() {
    Due.test(27, "Of the latest call with a SHEET, or as(), that was not BAD, STATE, FULL: the number of its FINDING;");
    BeepNet x = Due.net(2);
    x.sheet(0, 0, -1);
    Due.is("SIZE", x.status(), 4);
    x.set(0, 2, 0);
    Due.is("NULL", x.status(), 1);
    x.sheet(0, 0, 2);
    x.set(0, 2, 0);
    Due.is("PLACE", x.status(), 2);
    x.sheet(1, 1, 2);
    x.copy(0, 0, 1, 0, 1);
    Due.is("STORE", x.status(), 5);
    x.as(0, 3);
    Due.is("KIND", x.status(), 3);
    x.picks(0, 0, 3, 1, 0);
    Due.is("PLACE", x.status(), 2);
    x.drop(5);
    Due.is("NULL", x.status(), 1);
    x.sheet(0, 9, 1);
    x.set(9, 0, 0);
    x.copy(0, 0, 9, 0, 0);
    x.drop(-1);
    x.picks(0, 0, 0, 1, 1);
    x.as(0, 5);
    x.as(8, 0);
    Due.is("BAD leaves it", x.status(), 1);
    x.run(0, 0, 1);
    x.jammed(0, 0, 1);
    Due.is("STATE leaves it", x.status(), 1);
    for (int p = 2; p < 9; p++) {
      x.post();
    }
    Due.is("FULL leaves it", x.status(), 1);
    otherCalls(x);
    Due.is("calls without a sheet leave it", x.status(), 1);
    Due.is("asked again", x.status(), 1);
  }

  private static void otherCalls(BeepNet x) {
    x.join(0, 1);
    x.part(0, 1);
    x.far(0, 1);
    x.told(0, 0);
    x.hears(0, 1);
    x.spreads(0, 1, 1);
    Due.schedule(x, "all;");
    Due.schedule(x, "#");
    x.fault();
    x.round(0);
    x.run(0, 0, 1);
    x.least(0, 1, 0);
    x.jammed(0, 0, 1);
    x.draws(0, 0, 1);
    x.kind(0);
    x.ask(0, 0);
    x.trace(0);
    x.count(0);
  }

  private static void statusOfNone() {
    Due.test(27, "0: it had none, or there was none.");
    BeepNet x = Due.net(2);
    Due.is("there was none", x.status(), 0);
    otherCalls(x);
    Due.is("there was none", x.status(), 0);
    x.sheet(8, 0, 0);
    Due.is("there was none but a BAD one", x.status(), 0);
    found(x);
    x.sheet(0, 0, 0);
    Due.is("sheet", x.status(), 0);
    x.sheet(0, 0, 2);
    found(x);
    x.set(0, 1, 0);
    Due.is("set", x.status(), 0);
    found(x);
    x.copy(0, 0, 0, 1, 0);
    Due.is("copy", x.status(), 0);
    found(x);
    x.picks(0, 0, 2, 1, 0);
    Due.is("picks, though they do not", x.status(), 0);
    found(x);
    x.as(0, 4);
    Due.is("as", x.status(), 0);
    found(x);
    x.drop(0);
    Due.is("drop", x.status(), 0);
  }

  private static void found(BeepNet x) {
    x.drop(5);
    Due.is("NULL", x.status(), 1);
  }
}
