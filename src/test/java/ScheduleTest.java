/** Promises 13 to 17: the tape, schedules, faults, rounds and runs. */
public final class ScheduleTest {
  public static void main(String[] args) {
    feed();
    feedOrder();
    schedule();
    texts();
    faults();
    faultsAtTheEnd();
    faultsOfManyRounds();
    faultStays();
    fault();
    round();
    run();
    runRefused();
    Due.end();
  }

  private static void feed() {
    BeepNet x = new BeepNet();
    Due.is("n 0", x.feed(1, 0), Due.BAD);
    Due.is("n 9", x.feed(1, 9), Due.BAD);
    Due.is("n -1", x.feed(1, -1), Due.BAD);
    Due.is("n least", x.feed(1, Integer.MIN_VALUE), Due.BAD);
    Due.is("none came", x.count(7), 0);
    for (int i = 1; i <= 37; i++) {
      Due.is("feed", x.feed(-1L, 8), 8 * i);
    }
    Due.is("304: none comes", x.feed(0, 8), Due.FULL);
    Due.is("301: none comes", x.feed(0, 5), Due.FULL);
    Due.is("n 9, though full", x.feed(0, 9), Due.BAD);
    Due.is("296", x.count(7), 296);
    Due.is("300", x.feed(0, 4), 300);
    Due.is("301: none comes", x.feed(0, 1), Due.FULL);
    Due.is("300", x.count(7), 300);
  }

  private static void feedOrder() {
    BeepNet x = new BeepNet();
    long all = 0x616C6C3BL;
    Due.is("all; in two parts", x.feed(0x616CL, 2), 2);
    Due.is("all; in two parts", x.feed(0x6C3BL, 2), 4);
    Due.is("read", x.schedule(), 1);
    x.feed(0x7777777700000000L | all, 4);
    Due.is("the lowest bytes alone", x.schedule(), 1);
    x.feed(all << 32 | all, 8);
    Due.is("eight bytes", x.schedule(), 2);
    x.feed(0xFFFFFFFFFFFFFF3BL, 1);
    Due.is("one byte", x.schedule(), -1000100);
  }

  private static void schedule() {
    BeepNet x = Due.net(4);
    Due.is("four", Due.schedule(x, "round 0 2;all;twice;round;"), 4);
    Due.is("the tape is empty", x.count(7), 0);
    Due.is("rounds", x.count(3), 4);
    Due.is("it stays", Due.schedule(x, "round 0 2;all"), -1000113);
    Due.is("the tape is empty", x.count(7), 0);
    Due.is("rounds", x.count(3), 4);
    Due.is("another", Due.schedule(x, "round 3;"), 1);
    Due.is("rounds", x.count(3), 1);
    Due.is("its set", x.round(0), 8);
    Due.is("an empty one", x.schedule(), 0);
    Due.is("rounds", x.count(3), 0);
    Due.is("blanks alone", Due.schedule(x, " \n "), 0);
    Due.is("fault()", x.fault(), 1);
  }

  private static void texts() {
    BeepNet x = Due.net(8);
    Due.is("blanks", Due.schedule(x, " round\n0  7 ; \n all ;\n"), 2);
    Due.is("set", x.round(0), 129);
    Due.is("no blanks", Due.schedule(x, "round0 1;all;twice;"), 3);
    Due.is("set", x.round(0), 3);
    Due.is("two figures", Due.schedule(x, "round 07 00;"), 1);
    Due.is("set", x.round(0), 129);
    Due.is("all eight", Due.schedule(x, "round 7 6 5 4 3 2 1 0;"), 1);
    Due.is("set", x.round(0), 255);
    Due.is("none sounds", Due.schedule(x, "round;twice;"), 2);
    Due.is("set", x.round(0), 0);
    Due.is("set", x.round(1), 0);
    Due.is("twice of twice", Due.schedule(x, "round 5;twice;twice;round 1;twice;"), 5);
    int[] want = {32, 32, 32, 2, 2};
    for (int i = 0; i < 5; i++) {
      Due.is("round(" + i + ")", x.round(i), want[i]);
    }
    Due.is("told again in another round", Due.schedule(x, "round 5;round 5;"), 2);
    String full = "round 0 1 2 3 4 5 6 7;".repeat(13);
    Due.is("300 bytes", Due.schedule(x, full + " ".repeat(300 - full.length())), 13);
  }

  private static void at(BeepNet x, String text, int place, int number) {
    String call = "'" + text.replace('\n', '/') + "'";
    Due.is(call, Due.schedule(x, text), -1000100 - place);
    Due.is(call + " fault()", x.fault(), number);
    Due.is(call + " count(7)", x.count(7), 0);
  }

  private static void faults() {
    BeepNet x = Due.net(3);
    at(x, ";", 0, 1);
    at(x, "  ;", 2, 1);
    at(x, "0;", 0, 1);
    at(x, "al;", 0, 1);
    at(x, "ALL;", 0, 1);
    at(x, "allall;", 0, 1);
    at(x, "bll;", 0, 1);
    at(x, "axl;", 0, 1);
    at(x, "sound;", 0, 1);
    at(x, "all;ewice;", 4, 1);
    at(x, "zall;", 0, 1);
    at(x, "allz;", 0, 1);
    at(x, "all`;", 3, 1);
    at(x, "all{;", 3, 1);
    at(x, "round 0:", 7, 1);
    at(x, "round 0/", 7, 1);
    at(x, "roundround;", 0, 1);
    at(x, "round all;", 6, 1);
    at(x, "round 0 twice;", 8, 1);
    at(x, "round 0round 1;", 7, 1);
    at(x, "all", 3, 1);
    at(x, "all  \n", 6, 1);
    at(x, "round 0 ", 8, 1);
    at(x, "round", 5, 1);
    at(x, "all 0;", 4, 1);
    at(x, "all 3;", 4, 1);
    at(x, "all;twice 0;", 10, 1);
    at(x, "all;#", 4, 1);
    at(x, "all;\t", 4, 1);
    at(x, "all,", 3, 1);
    at(x, "all;\u0000", 4, 1);
    at(x, "all;\u00ff", 4, 1);
    at(x, "round 000;", 6, 1);
    at(x, "round 0 111;", 8, 1);
    at(x, "round 3;", 6, 2);
    at(x, "round 99;", 6, 2);
    at(x, "round 32;", 6, 2);
    at(x, "round 0 1 00;", 10, 2);
    at(x, "round 0 1 2 1", 12, 2);
    at(x, "round 3 #", 6, 2);
    at(x, "twice;", 0, 2);
    at(x, " twice #", 1, 2);
    at(x, "twice", 0, 2);
    BeepNet none = new BeepNet();
    at(none, "round 0;", 6, 2);
    Due.is("no posts, a round of none", Due.schedule(none, "round;all;"), 2);
    Due.is("no posts, all", none.round(1), 0);
  }

  // What an earlier text left behind the end of a shorter one, and the tape's own end, are not read.
  private static void faultsAtTheEnd() {
    BeepNet x = Due.net(3);
    at(x, "round 000;", 6, 1);
    at(x, "round 0", 7, 1);
    at(x, "rounds", 0, 1);
    at(x, "round", 5, 1);
    at(x, "all;;", 4, 1);
    Due.is("no sign more", Due.schedule(x, "all;"), 1);
    at(x, " ".repeat(293) + "round 0", 300, 1);
    at(x, " ".repeat(297) + "all", 300, 1);
    at(x, " ".repeat(299) + "#", 299, 1);
    Due.is("300 blanks", Due.schedule(x, " ".repeat(300)), 0);
  }

  private static void faultsOfManyRounds() {
    BeepNet x = Due.net(3);
    Due.is("20 rounds", Due.schedule(x, "all;".repeat(20)), 20);
    Due.is("the last", x.round(19), 7);
    Due.is("no more", x.round(20), Due.NONE);
    at(x, "all;".repeat(21), 80, 3);
    at(x, "all;".repeat(20) + " round 9;", 81, 3);
    at(x, "all;".repeat(20) + "twice #", 80, 3);
    at(x, "all;".repeat(20) + "#", 80, 1);
    at(x, "all;".repeat(20) + ";", 80, 1);
    at(x, "all;".repeat(20) + "6", 80, 1);
    at(x, "all;".repeat(19) + "round 9;all;", 82, 2);
    Due.is("20 with twice", Due.schedule(x, "all;" + "twice;".repeat(19) + "\n"), 20);
  }

  private static void faultStays() {
    BeepNet x = Due.net(3);
    Due.schedule(x, "round 1;round 2;");
    String[] texts = {"round 0;round 9;", "all;twice;round 0 0;", "all;".repeat(21), "twice;"};
    for (String text : texts) {
      Due.schedule(x, text);
      Due.is("round(0) stays", x.round(0), 2);
      Due.is("round(1) stays", x.round(1), 4);
      Due.is("count(3) stays", x.count(3), 2);
    }
  }

  private static void fault() {
    BeepNet x = Due.net(3);
    Due.is("0 before one", x.fault(), 0);
    Due.schedule(x, "all;");
    Due.is("0 before one", x.fault(), 0);
    Due.schedule(x, "round 5;");
    Due.is("2", x.fault(), 2);
    Due.schedule(x, "all;");
    Due.is("the latest, though none since", x.fault(), 2);
    Due.schedule(x, "all;".repeat(21));
    Due.is("3", x.fault(), 3);
    Due.schedule(x, "all;;");
    Due.is("1", x.fault(), 1);
  }

  private static void round() {
    BeepNet x = Due.net(2);
    Due.schedule(x, "all;twice;round 0 1;");
    x.post();
    Due.is("all that are there then", x.round(0), 7);
    Due.is("once more", x.round(1), 7);
    Due.is("these posts", x.round(2), 3);
    Due.is("not so many", x.round(3), Due.NONE);
    Due.is("not so many", x.round(Integer.MAX_VALUE), Due.NONE);
    Due.is("below 0", x.round(-1), Due.NONE);
    Due.is("not told as a post when read", Due.schedule(x, "round 3;"), -1000106);
    x.post();
    Due.is("told as a post now", Due.schedule(x, "round 3;"), 1);
  }

  private static void run() {
    BeepNet x = Due.chain(5);
    Due.schedule(x, "round 0 2 4;round 1 3;");
    int[] want = {1, 3, 7, 15, 31, 31};
    for (int rounds = 0; rounds < 6; rounds++) {
      Due.is("run(1, 0, " + rounds + ")", x.run(1, 0, rounds), want[rounds]);
    }
    Due.is("late", x.run(0, 1, 1), 2);
    Due.is("late", x.run(0, 1, 2), 7);
    Due.is("60", x.run(0, 4, 60), 31);
    // a ring of four: the two that were told first drown each other for the last, by talk
    BeepNet ring = Due.net(4, 0, 1, 1, 2, 2, 3, 3, 0);
    Due.schedule(ring, "all;");
    Due.is("beeps", ring.run(0, 0, 2), 15);
    Due.is("talk", ring.run(1, 0, 2), 11);
    Due.is("talk, ever so long", ring.run(1, 0, 60), 11);
    Due.schedule(ring, "all;twice;round 1;");
    Due.is("talk, the third round", ring.run(1, 0, 3), 15);
    ring.post();
    ring.join(4, 2);
    Due.is("a new post sounds and hears", ring.run(1, 4, 2), 30);
  }

  private static void runRefused() {
    BeepNet x = Due.chain(3);
    Due.is("empty", x.run(0, 0, 0), Due.STATE);
    Due.is("BAD ahead of STATE", x.run(2, 0, 0), Due.BAD);
    Due.is("BAD ahead of STATE", x.run(0, 3, 0), Due.BAD);
    Due.is("BAD ahead of STATE", x.run(0, 0, 61), Due.BAD);
    Due.schedule(x, "all;");
    Due.is("hearing 2", x.run(2, 0, 0), Due.BAD);
    Due.is("hearing -1", x.run(-1, 0, 0), Due.BAD);
    Due.is("post 3", x.run(0, 3, 0), Due.BAD);
    Due.is("post -1", x.run(0, -1, 0), Due.BAD);
    Due.is("rounds 61", x.run(0, 0, 61), Due.BAD);
    Due.is("rounds -1", x.run(0, 0, -1), Due.BAD);
    Due.is("none", x.run(0, 0, 0), 1);
    x.schedule();
    Due.is("empty again", x.run(0, 0, 1), Due.STATE);
  }
}
