/** Promises 13 to 17, sentence by sentence: the tape, schedules, faults, rounds and runs. */
public final class ScheduleTest {
  private static final long ALL = 0x616C6C3BL; // "all;"

  public static void main(String[] args) {
    feed();
    feedRefused();
    tapeIsFull();
    threeHundred();
    schedule();
    scheduleStays();
    names();
    numbers();
    signsAndBlanks();
    texts();
    firstFault();
    cannotStand();
    theEnd();
    numbersOfNoPost();
    twiceWithout();
    tooManyRounds();
    fault();
    round();
    notSoMany();
    thesePosts();
    allThatAreThere();
    onceMore();
    run();
    runRounds();
    runRefused();
    Due.end();
  }

  private static void feed() {
    Due.test(13, "The lowest n bytes of w (1 to 8), the highest of them first, come behind the tape: how many it has.");
    BeepNet x = Due.net(3);
    Due.is("two bytes", x.feed(0x616CL, 2), 2);
    Due.is("two bytes behind", x.feed(0x6C3BL, 2), 4);
    Due.is("all;", x.schedule(), 1);
    for (int n = 1; n <= 8; n++) {
      // the last n bytes of "round 1;" behind the others, one by one
      String text = "round 1;";
      for (int i = 0; i < 8 - n; i++) {
        Due.is("byte " + i, x.feed(text.charAt(i), 1), i + 1);
      }
      Due.is(n + " bytes", x.feed(0x726F756E6420313BL, n), 8);
      Due.is("read, " + n, x.schedule(), 1);
      Due.is("its set, " + n, x.round(0), 2);
    }
    x.feed(0x7777777700000000L | ALL, 4);
    Due.is("the highest bytes do not come", x.schedule(), 1);
    x.feed(ALL << 32 | ALL, 8);
    Due.is("eight bytes", x.schedule(), 2);
    x.feed(0xFFFFFFFFFFFFFF3BL, 1);
    Due.is("the lowest byte alone", x.schedule(), -1000100);
    Due.is("eight bytes below 0", x.feed(-1L, 8), 8);
    Due.is("none of them is a token", x.schedule(), -1000100);
  }

  private static void feedRefused() {
    Due.test(13, "BAD: n;");
    BeepNet x = new BeepNet();
    int[] wrong = {0, -1, 9, Due.LEAST, Due.GREATEST};
    for (int n : wrong) {
      Due.is("n " + n, x.feed(ALL, n), Due.BAD);
      Due.is("none came", x.count(7), 0);
    }
    Due.is("n 1", x.feed(' ', 1), 1);
    Due.is("n 8", x.feed(0x2020202020202020L, 8), 9);
    Due.feed(x, " ".repeat(291));
    for (int n : wrong) {
      Due.is("the tape is full, n " + n, x.feed(ALL, n), Due.BAD);
    }
  }

  private static void tapeIsFull() {
    Due.test(13, "FULL: none comes.");
    BeepNet x = Due.net(2);
    String text = "all;" + " ".repeat(292);
    Due.is("296", Due.feed(x, text), 296);
    for (int n = 5; n <= 8; n++) {
      Due.is("n " + n, x.feed(0x2323232323232323L, n), Due.FULL);
      Due.is("296 stay", x.count(7), 296);
    }
    Due.is("4 more", x.feed(ALL, 4), 300);
    Due.is("one more", x.feed(0x23, 1), Due.FULL);
    Due.is("300 stay", x.count(7), 300);
    Due.is("none of the refused came", x.schedule(), 2);
  }

  private static void threeHundred() {
    Due.test(13, "SCHEDULES, texts: THE TAPE has at most 300 bytes;");
    BeepNet x = Due.net(8);
    for (int i = 1; i <= 37; i++) {
      Due.is("feed", x.feed(0x2020202020202020L, 8), 8 * i);
    }
    Due.is("300", x.feed(0x20202020L, 4), 300);
    Due.is("301", x.feed(0x20L, 1), Due.FULL);
    Due.is("300 blanks are a text", x.schedule(), 0);
    Due.is("one, behind an empty tape", x.feed(0x20L, 1), 1);
    x.schedule();
    String full = "round 0 1 2 3 4 5 6 7;".repeat(13);
    Due.is("300 bytes", Due.schedule(x, full + "twice;" + "\n".repeat(8)), 14);
    Due.is("a sign as the last of 300", Due.schedule(x, " ".repeat(296) + "all;"), 1);
    Due.faultAt(x, " ".repeat(293) + "round 0", 300, 1);
    Due.faultAt(x, " ".repeat(297) + "all", 300, 1);
    Due.faultAt(x, " ".repeat(299) + "#", 299, 1);
  }

  private static void schedule() {
    Due.test(14, "The tape, empty then, is read: how many ROUNDS the SCHEDULE has; it is this one.");
    BeepNet x = Due.net(4);
    Due.is("an empty tape", x.schedule(), 0);
    Due.is("four", Due.schedule(x, "round 0 2;all;twice;round;"), 4);
    Due.is("the tape is empty", x.count(7), 0);
    Due.is("four", x.count(3), 4);
    Due.is("one in place of four", Due.schedule(x, "round 3;"), 1);
    Due.is("one", x.count(3), 1);
    Due.is("its set", x.round(0), 8);
    Due.is("no second", x.round(1), Due.NONE);
    Due.is("20", Due.schedule(x, "all;".repeat(20)), 20);
    Due.is("20", x.count(3), 20);
    Due.is("an empty one in place of 20", x.schedule(), 0);
    Due.is("none", x.count(3), 0);
    Due.is("none", x.round(0), Due.NONE);
    Due.is("blanks alone", Due.schedule(x, " \n "), 0);
    Due.is("the tape is empty", x.count(7), 0);
    Due.is("no fault", x.fault(), 0);
  }

  private static void scheduleStays() {
    Due.test(14, "-1000100 less the place of a FAULT: it stays.");
    BeepNet x = Due.net(3);
    Due.schedule(x, "round 1;round 2;");
    String[] texts = {
      "#", "round 0;round 9;", "all;twice;round 0 0;", "all;".repeat(21), "twice;", "all", "all;all;all;round 0",
    };
    int[] places = {0, 14, 18, 80, 0, 3, 19};
    for (int t = 0; t < texts.length; t++) {
      Due.is(texts[t], Due.schedule(x, texts[t]), -1000100 - places[t]);
      Due.is("round(0) stays", x.round(0), 2);
      Due.is("round(1) stays", x.round(1), 4);
      Due.is("round(2) is none", x.round(2), Due.NONE);
      Due.is("two rounds stay", x.count(3), 2);
      Due.is("the tape is empty", x.count(7), 0);
    }
    Due.is("what was read is not read again", x.schedule(), 0);
    Due.is("an empty one", x.count(3), 0);
    Due.schedule(x, "#");
    Due.is("an empty one stays, too", x.count(3), 0);
  }

  private static void names() {
    Due.test(14, "TOKENS: NAMES (letters a to z, 6 at most),");
    BeepNet x = Due.net(3);
    String[] wrong = {
      "a", "al", "alle", "allall", "allallall", "bll", "axl", "alm", "zall", "r", "roun", "rounds", "roundround", "sound",
      "rounc", "twic", "twices", "ewice", "abcdef", "abcdefg", "z",
    };
    for (String name : wrong) {
      Due.faultAt(x, name + ";", 0, 1);
      Due.faultAt(x, "all;" + name, 4, 1);
    }
    Due.faultAt(x, "ALL;", 0, 1);
    Due.faultAt(x, "All;", 0, 1);
    Due.faultAt(x, "alL;", 0, 1);
    Due.faultAt(x, "allL;", 3, 1);
    Due.faultAt(x, "all`;", 3, 1);
    Due.faultAt(x, "all{;", 3, 1);
    Due.faultAt(x, "{", 0, 1);
    Due.faultAt(x, "`", 0, 1);
  }

  private static void numbers() {
    Due.test(14, "NUMBERS (figures, 2 at most),");
    BeepNet x = Due.net(8);
    Due.is("one figure", Due.schedule(x, "round 7;"), 1);
    Due.is("its set", x.round(0), 128);
    Due.is("two figures", Due.schedule(x, "round 07 00;"), 1);
    Due.is("its set", x.round(0), 129);
    Due.faultAt(x, "round 000;", 6, 1);
    Due.faultAt(x, "round 007;", 6, 1);
    Due.faultAt(x, "round 0 111;", 8, 1);
    Due.faultAt(x, "round 100;", 6, 1);
    Due.faultAt(x, "round 4294967296;", 6, 1);
    Due.faultAt(x, "round 0 " + "9".repeat(292), 8, 1);
    Due.faultAt(x, "round 0:", 7, 1);
    Due.faultAt(x, "round 0/", 7, 1);
    Due.faultAt(x, "round :", 6, 1);
    Due.faultAt(x, "round /", 6, 1);
    Due.faultAt(x, "round -1;", 6, 1);
    Due.faultAt(x, "round 0.5;", 7, 1);
  }

  private static void signsAndBlanks() {
    Due.test(14, "SIGNS ; bytes 32 and 10 between.");
    BeepNet x = Due.net(8);
    Due.is("blanks", Due.schedule(x, " round\n0  7 ; \n all ;\n"), 2);
    Due.is("set", x.round(0), 129);
    Due.is("no blanks", Due.schedule(x, "round0 1;all;twice;"), 3);
    Due.is("set", x.round(0), 3);
    Due.is("one blank keeps numbers apart", Due.schedule(x, "round 1\n2;"), 1);
    Due.is("set", x.round(0), 6);
    Due.is("none makes them one", Due.schedule(x, "round 12;"), -1000106);
    Due.faultAt(x, "al l;", 0, 1);
    Due.faultAt(x, "r ound;", 0, 1);
    for (int b = 0; b < 256; b++) {
      boolean blank = b == 32 || b == 10;
      boolean part = b >= 'a' && b <= 'z';
      BeepNet y = Due.net(1);
      y.feed(0x616C6C003B20L | b << 16, 6);
      Due.is("byte " + b + " behind 'all'", y.schedule(), blank ? 1 : b == ';' ? -1000104 : part ? -1000100 : -1000103);
    }
  }

  private static void texts() {
    Due.test(14, "text: { 'round' { NUMBER } ';' | 'all' ';' | 'twice' ';' }:");
    BeepNet x = Due.net(8);
    Due.is("nothing", Due.schedule(x, ""), 0);
    Due.is("round without a number", Due.schedule(x, "round;"), 1);
    Due.is("round of one", Due.schedule(x, "round 3;"), 1);
    Due.is("round of all eight", Due.schedule(x, "round 7 6 5 4 3 2 1 0;"), 1);
    Due.is("all", Due.schedule(x, "all;"), 1);
    Due.is("all, twice", Due.schedule(x, "all;twice;"), 2);
    Due.is("round, twice, twice", Due.schedule(x, "round 1;twice;twice;"), 3);
    Due.is("20 rounds", Due.schedule(x, "all;" + "twice;".repeat(19) + "\n"), 20);
    Due.faultAt(x, ";", 0, 1);
    Due.faultAt(x, "0;", 0, 1);
    Due.faultAt(x, "all;;", 4, 1);
    Due.faultAt(x, "all 0;", 4, 1);
    Due.faultAt(x, "all all;", 4, 1);
    Due.faultAt(x, "all;twice 0;", 10, 1);
    Due.faultAt(x, "all;twice twice;", 10, 1);
    Due.faultAt(x, "round round;", 6, 1);
    Due.faultAt(x, "round all;", 6, 1);
    Due.faultAt(x, "round 0 twice;", 8, 1);
    Due.faultAt(x, "round 0round 1;", 7, 1);
  }

  private static void firstFault() {
    Due.test(14, "FAULTS, the first TOKEN that has one (its first byte), of one TOKEN the least:");
    BeepNet x = Due.net(3);
    Due.faultAt(x, "round 3 #", 6, 2);
    Due.faultAt(x, "round 0 0 rounds", 8, 2);
    Due.faultAt(x, "# round 3;", 0, 1);
    Due.faultAt(x, " twice #", 1, 2);
    Due.faultAt(x, " \n twice 3", 3, 2);
    Due.faultAt(x, "round  rounds;", 7, 1);
    Due.faultAt(x, "all;".repeat(19) + "round 9;all;", 82, 2);
    Due.faultAt(x, "all;".repeat(20) + "round 9;", 80, 3);
    Due.faultAt(x, "all 9;", 4, 1);
    Due.faultAt(x, "9;", 0, 1);
    Due.faultAt(x, "round 999;", 6, 1);
    Due.faultAt(x, "twice", 0, 2);
    Due.faultAt(x, "all twice;", 4, 1);
    Due.faultAt(x, "round twice;", 6, 1);
    Due.faultAt(x, "all;".repeat(19) + "all all;", 80, 1);
  }

  private static void cannotStand() {
    Due.test(15, "1 it cannot stand there, or is none");
    BeepNet x = Due.net(3);
    Due.faultAt(x, "  ;", 2, 1);
    Due.faultAt(x, "all,", 3, 1);
    Due.faultAt(x, "all;#", 4, 1);
    Due.faultAt(x, "all;\t", 4, 1);
    Due.faultAt(x, "all;\r\n", 4, 1);
    Due.faultAt(x, "all;\u0000", 4, 1);
    Due.faultAt(x, "all;\u007f", 4, 1);
    Due.faultAt(x, "all;\u0080", 4, 1);
    Due.faultAt(x, "all;\u00ff", 4, 1);
    Due.faultAt(x, "all;\u00e1", 4, 1);
    Due.faultAt(x, "all;".repeat(20) + "#", 80, 1);
    Due.faultAt(x, "all;".repeat(20) + ";", 80, 1);
    Due.faultAt(x, "all;".repeat(20) + "6", 80, 1);
    Due.faultAt(x, "all;".repeat(20) + "rounds", 80, 1);
  }

  private static void theEnd() {
    Due.test(14, "(the end: how many bytes there are);");
    BeepNet x = Due.net(3);
    Due.faultAt(x, "round", 5, 1);
    Due.faultAt(x, "round 0", 7, 1);
    Due.faultAt(x, "round 0 ", 8, 1);
    Due.faultAt(x, "all", 3, 1);
    Due.faultAt(x, "all  \n", 6, 1);
    Due.faultAt(x, "all;twice", 9, 1);
    Due.faultAt(x, "all;twice  ", 11, 1);
    // what an earlier, longer text left behind the end is not read
    Due.faultAt(x, "round 000;", 6, 1);
    Due.faultAt(x, "round 0", 7, 1);
    Due.faultAt(x, "rounds", 0, 1);
    Due.faultAt(x, "round", 5, 1);
    Due.faultAt(x, "all;;", 4, 1);
    Due.is("no sign more", Due.schedule(x, "all;"), 1);
  }

  private static void numbersOfNoPost() {
    Due.test(15, "2 a NUMBER that is no POST's, or is told in this ROUND already;");
    for (int posts = 0; posts <= 8; posts++) {
      BeepNet x = Due.net(posts);
      Due.faultAt(x, "round " + posts + ";", 6, 2);
      if (posts > 0) {
        Due.is("the last post", Due.schedule(x, "round " + (posts - 1) + ";"), 1);
      }
    }
    BeepNet x = Due.net(8);
    for (int number = 8; number < 100; number++) {
      Due.faultAt(x, "round " + number + ";", 6, 2);
    }
    Due.faultAt(x, "round 08;", 6, 2);
    Due.faultAt(x, "round 0 1 00;", 10, 2);
    Due.faultAt(x, "round 7 7;", 8, 2);
    Due.faultAt(x, "round 0 1 2 1", 12, 2);
    Due.faultAt(x, "round 0 1 2 3 4 5 6 7 0;", 22, 2);
    Due.faultAt(x, "round 0 1 2 3 4 5 6 7 8;", 22, 2);
    Due.is("told in another round", Due.schedule(x, "round 5;round 5;"), 2);
  }

  private static void twiceWithout() {
    Due.test(15, "'twice' without a ROUND ahead;");
    BeepNet x = Due.net(3);
    Due.schedule(x, "all;");
    Due.faultAt(x, "twice;", 0, 2);
    Due.faultAt(x, " twice;", 1, 2);
    Due.faultAt(x, "twice;all;", 0, 2);
    Due.is("with one ahead", Due.schedule(x, "round;twice;"), 2);
    Due.faultAt(x, "twice;", 0, 2);
  }

  private static void tooManyRounds() {
    Due.test(15, "3 the 21st ROUND (its word).");
    BeepNet x = Due.net(3);
    Due.is("20 rounds", Due.schedule(x, "all;".repeat(20)), 20);
    Due.faultAt(x, "all;".repeat(21), 80, 3);
    Due.faultAt(x, "all;".repeat(20) + " round 1;", 81, 3);
    Due.faultAt(x, "all;".repeat(20) + "twice #", 80, 3);
    Due.faultAt(x, "all;".repeat(20) + "\nall", 81, 3);
    Due.faultAt(x, "all;".repeat(75), 80, 3);
    Due.is("20 rounds and blanks", Due.schedule(x, "all;".repeat(20) + " \n"), 20);
  }

  private static void fault() {
    Due.test(15, "The number of the latest FAULT; 0 before one.");
    BeepNet x = Due.net(3);
    Due.is("before one", x.fault(), 0);
    Due.schedule(x, "all;");
    Due.is("still before one", x.fault(), 0);
    Due.schedule(x, "round 5;");
    Due.is("2", x.fault(), 2);
    Due.is("asked again", x.fault(), 2);
    Due.schedule(x, "all;");
    Due.is("the latest, though none since", x.fault(), 2);
    x.schedule();
    Due.is("the latest, though none since", x.fault(), 2);
    Due.schedule(x, "all;".repeat(21));
    Due.is("3", x.fault(), 3);
    Due.schedule(x, "all;;");
    Due.is("1", x.fault(), 1);
  }

  private static void round() {
    Due.test(16, "The set that sounds in ROUND i of the SCHEDULE (those POSTS that are there);");
    BeepNet x = Due.net(8);
    Due.schedule(x, "round;round 0;round 7;round 1 3 5;all;twice;round 6 0;");
    int[] want = {0, 1, 128, 42, 255, 255, 65};
    for (int i = 0; i < 7; i++) {
      Due.is("round(" + i + ")", x.round(i), want[i]);
    }
    BeepNet none = new BeepNet();
    Due.schedule(none, "all;round;");
    Due.is("no posts, all", none.round(0), 0);
    Due.is("no posts, none", none.round(1), 0);
    none.post();
    Due.is("one post, all", none.round(0), 1);
    Due.is("one post, none", none.round(1), 0);
  }

  private static void notSoMany() {
    Due.test(16, "NONE: there are not so many.");
    BeepNet x = Due.net(2);
    int[] never = {-1, 20, 21, Due.LEAST, Due.GREATEST};
    Due.is("an empty one", x.round(0), Due.NONE);
    Due.schedule(x, "all;");
    Due.is("round(0) of one", x.round(0), 3);
    Due.is("round(1) of one", x.round(1), Due.NONE);
    Due.schedule(x, "all;".repeat(20));
    Due.is("round(19) of 20", x.round(19), 3);
    for (int i : never) {
      Due.is("round(" + i + ")", x.round(i), Due.NONE);
    }
    Due.schedule(x, "all;all;");
    Due.is("round(2), of the schedule ahead", x.round(2), Due.NONE);
  }

  private static void thesePosts() {
    Due.test(16, "a ROUND in which these POSTS sound;");
    BeepNet x = Due.net(2);
    Due.schedule(x, "round 0 1;round;");
    x.post();
    Due.is("these two, not the third", x.round(0), 3);
    Due.is("none", x.round(1), 0);
    Due.faultAt(x, "round 3;", 6, 2);
    x.post();
    Due.is("it is there now", Due.schedule(x, "round 3;"), 1);
    Due.is("post 3", x.round(0), 8);
  }

  private static void allThatAreThere() {
    Due.test(16, "one in which all sound that are there then;");
    BeepNet x = new BeepNet();
    Due.schedule(x, "all;");
    for (int posts = 0; posts <= 8; posts++) {
      Due.is(posts + " posts", x.round(0), (1 << posts) - 1);
      x.post();
    }
    // a post that came behind the text sounds, too: word goes from it
    BeepNet late = Due.net(1);
    Due.schedule(late, "all;");
    late.post();
    late.join(0, 1);
    Due.is("from the late one", late.run(1, 1, 1), 3);
  }

  private static void onceMore() {
    Due.test(16, "the ROUND ahead once more.");
    BeepNet x = Due.net(8);
    Due.is("five", Due.schedule(x, "round 5;twice;twice;round 1;twice;"), 5);
    int[] want = {32, 32, 32, 2, 2};
    for (int i = 0; i < 5; i++) {
      Due.is("round(" + i + ")", x.round(i), want[i]);
    }
    Due.is("of none", Due.schedule(x, "round;twice;"), 2);
    Due.is("none", x.round(1), 0);
    BeepNet y = Due.net(2);
    Due.schedule(y, "all;twice;");
    y.post();
    Due.is("all that are there then", y.round(1), 7);
  }

  private static void run() {
    Due.test(17, "RUN.");
    // a ring of four: the two that were told first drown each other for the last, by talk
    BeepNet ring = Due.net(4, 0, 1, 1, 2, 2, 3, 3, 0);
    Due.schedule(ring, "all;");
    Due.is("beeps", ring.run(0, 0, 2), 15);
    Due.is("talk", ring.run(1, 0, 2), 11);
    Due.is("talk, ever so long", ring.run(1, 0, 60), 11);
    Due.schedule(ring, "all;twice;round 1;");
    Due.is("talk, the third round", ring.run(1, 0, 3), 15);
    ring.post();
    ring.join(4, 2);
    Due.is("a new post sounds and hears", ring.run(1, 4, 2), 30);
    Due.is("nothing has changed by it", ring.run(1, 4, 0), 16);
  }

  private static void runRounds() {
    Due.test(17, "RUN from a POST that KNOWS, by a HEARING, so many ROUNDS (0 to 60), the SCHEDULE over and over: who KNOWS then.");
    BeepNet x = Due.chain(5);
    Due.schedule(x, "round 0 2 4;round 1 3;");
    int[] want = {1, 3, 7, 15, 31, 31};
    for (int rounds = 0; rounds < 6; rounds++) {
      Due.is("run(1, 0, " + rounds + ")", x.run(1, 0, rounds), want[rounds]);
    }
    Due.is("late", x.run(0, 1, 1), 2);
    Due.is("late", x.run(0, 1, 2), 7);
    Due.is("rounds -1", x.run(0, 0, -1), Due.BAD);
    Due.is("rounds 61", x.run(0, 0, 61), Due.BAD);
    // word goes on in each 20th round alone: at 20, at 40 and at 60
    BeepNet y = Due.chain(5);
    Due.schedule(y, "round;" + "twice;".repeat(18) + "all;");
    int[] edges = {0, 19, 20, 39, 40, 59, 60};
    int[] then = {1, 1, 3, 3, 7, 7, 15};
    for (int i = 0; i < edges.length; i++) {
      Due.is("run(0, 0, " + edges[i] + ")", y.run(0, 0, edges[i]), then[i]);
    }
  }

  private static void runRefused() {
    Due.test(17, "BAD: HEARING, POST, ROUNDS; STATE: the SCHEDULE is empty.");
    BeepNet x = Due.chain(3);
    Due.is("empty", x.run(0, 0, 0), Due.STATE);
    Due.is("empty", x.run(1, 2, 60), Due.STATE);
    int[][] wrong = {
      {-1, 0, 0}, {2, 0, 0}, {Due.LEAST, 0, 0}, {Due.GREATEST, 0, 0}, {0, -1, 0}, {0, 3, 0}, {0, Due.LEAST, 0},
      {0, Due.GREATEST, 0}, {0, 0, -1}, {0, 0, 61}, {0, 0, Due.LEAST}, {0, 0, Due.GREATEST},
    };
    for (int[] w : wrong) {
      Due.is("ahead of STATE: run(" + w[0] + ", " + w[1] + ", " + w[2] + ")", x.run(w[0], w[1], w[2]), Due.BAD);
    }
    Due.schedule(x, "all;");
    for (int[] w : wrong) {
      Due.is("run(" + w[0] + ", " + w[1] + ", " + w[2] + ")", x.run(w[0], w[1], w[2]), Due.BAD);
    }
    Due.is("no rounds", x.run(0, 0, 0), 1);
    Due.is("60 rounds", x.run(0, 0, 60), 7);
    Due.schedule(x, "#");
    Due.is("a fault does not empty it", x.run(0, 0, 2), 7);
    x.schedule();
    Due.is("empty again", x.run(0, 0, 1), Due.STATE);
  }
}
