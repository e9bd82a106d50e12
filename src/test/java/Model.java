import java.util.ArrayDeque;
import java.util.ArrayList;
import java.util.Arrays;
import java.util.List;
import java.util.regex.Matcher;
import java.util.regex.Pattern;

/**
 * The document once more, told as plainly as can be and without regard to speed: what a BeepNet has to answer.
 * It shares no code with the program, so that tests may compare the two.
 */
public final class Model {
  private static final int NONE = -1000000, BAD = -1000001, STATE = -1000002, FULL = -1000003;
  private static final int NULL = 1, PLACE = 2, KIND = 3, SIZE = 4, STORE = 5;
  private static final Pattern TOKEN = Pattern.compile("[a-z]+|[0-9]+|[^ \n]");

  private final int[] lanes = new int[8];
  private final int[][] sheets = new int[8][];
  private final boolean[][] near = new boolean[8][8];
  private int posts = 0;
  private String tape = "";
  private List<Round> rounds = new ArrayList<>();
  private final List<Integer> trace = new ArrayList<>();
  private int latestFault = 0;
  private int status = 0;

  private record Round(boolean all, int set) {
  }

  private int found(int finding) {
    status = finding;
    return -1000010 - finding;
  }

  private int fine(int answer) {
    status = 0;
    return answer;
  }

  private static boolean in(int n, int least, int most) {
    return least <= n && n <= most;
  }

  // ---- sheets

  public int sheet(int sheet, int lane, int n) {
    if (!in(sheet, 0, 7) || !in(lane, 0, 2) || n > 40) {
      return BAD;
    }
    if (n < 0) {
      return found(SIZE);
    }
    lanes[sheet] = lane;
    sheets[sheet] = new int[n];
    return fine(n);
  }

  public int set(int sheet, int i, int v) {
    if (!in(sheet, 0, 7)) {
      return BAD;
    }
    if (sheets[sheet] == null) {
      return found(NULL);
    }
    if (!in(i, 0, sheets[sheet].length - 1)) {
      return found(PLACE);
    }
    int spare = lanes[sheet] == 0 ? 24 : lanes[sheet] == 1 ? 16 : 0;
    sheets[sheet][i] = v << spare >> spare;
    return fine(sheets[sheet][i]);
  }

  public int copy(int a, int i, int b, int j, int n) {
    if (!in(a, 0, 7) || !in(b, 0, 7)) {
      return BAD;
    }
    if (sheets[a] == null || sheets[b] == null) {
      return found(NULL);
    }
    if (lanes[a] != lanes[b]) {
      return found(STORE);
    }
    if (i < 0 || j < 0 || n < 0 || (long) i + n > sheets[a].length || (long) j + n > sheets[b].length) {
      return found(PLACE);
    }
    int[] ahead = sheets[a].clone();
    for (int k = 0; k < n; k++) {
      sheets[b][j + k] = ahead[i + k];
    }
    return fine(n);
  }

  public int drop(int sheet) {
    if (!in(sheet, 0, 7)) {
      return BAD;
    }
    if (sheets[sheet] == null) {
      return found(NULL);
    }
    int had = sheets[sheet].length;
    sheets[sheet] = null;
    return fine(had);
  }

  // ---- the net

  public int post() {
    return posts == 8 ? FULL : posts++;
  }

  private boolean isPost(int p) {
    return in(p, 0, posts - 1);
  }

  private boolean isSet(int set) {
    return in(set, 0, (1 << posts) - 1);
  }

  private static boolean has(int set, int post) {
    return (set & 1 << post) != 0;
  }

  public int join(int a, int b) {
    return neighbours(a, b, true);
  }

  public int part(int a, int b) {
    return neighbours(a, b, false);
  }

  private int neighbours(int a, int b, boolean then) {
    if (!isPost(a) || !isPost(b) || a == b) {
      return BAD;
    }
    int answer = near[a][b] == then ? 0 : 1;
    near[a][b] = then;
    near[b][a] = then;
    return answer;
  }

  public int far(int a, int b) {
    if (!isPost(a) || !isPost(b)) {
      return BAD;
    }
    int[] steps = new int[8];
    Arrays.fill(steps, NONE);
    steps[a] = 0;
    ArrayDeque<Integer> open = new ArrayDeque<>(List.of(a));
    while (!open.isEmpty()) {
      int p = open.remove();
      for (int q = 0; q < posts; q++) {
        if (near[p][q] && steps[q] == NONE) {
          steps[q] = steps[p] + 1;
          open.add(q);
        }
      }
    }
    return steps[b];
  }

  public int told(int post, int what) {
    if (!isPost(post) || !in(what, 0, 3)) {
      return BAD;
    }
    int many = 0;
    int set = 0;
    int width = 0;
    for (int q = 0; q < posts; q++) {
      many += near[post][q] ? 1 : 0;
      set += near[post][q] ? 1 << q : 0;
      width = Math.max(width, far(post, q));
    }
    return new int[] {many, set, width, reach(1 << post)}[what];
  }

  int reach(int from) {
    int reached = 0;
    for (int p = 0; p < posts; p++) {
      for (int q = 0; q < posts; q++) {
        if (has(from, p) && far(p, q) != NONE) {
          reached |= 1 << q;
        }
      }
    }
    return reached;
  }

  // ---- rounds

  public int hears(int hearing, int sounds) {
    if (!in(hearing, 0, 1) || !isSet(sounds)) {
      return BAD;
    }
    int heard = 0;
    for (int p = 0; p < posts; p++) {
      int sounding = 0;
      for (int q = 0; q < posts; q++) {
        sounding += near[p][q] && has(sounds, q) ? 1 : 0;
      }
      if (!has(sounds, p) && (hearing == 0 ? sounding >= 1 : sounding == 1)) {
        heard |= 1 << p;
      }
    }
    return heard;
  }

  public int spreads(int hearing, int knows, int sounds) {
    if (!in(hearing, 0, 1) || !isSet(knows) || !isSet(sounds)) {
      return BAD;
    }
    int then = knows;
    int heard = hears(hearing, knows & sounds);
    for (int p = 0; p < posts; p++) {
      then |= !has(knows, p) && has(heard, p) ? 1 << p : 0;
    }
    return then;
  }

  public int feed(long w, int n) {
    if (!in(n, 1, 8)) {
      return BAD;
    }
    if (tape.length() + n > 300) {
      return FULL;
    }
    String bytes = "";
    for (int i = 0; i < n; i++) {
      bytes = (char) (w >> 8 * i & 255) + bytes;
    }
    tape += bytes;
    return tape.length();
  }

  public int schedule() {
    String text = tape;
    tape = "";
    List<Round> read = new ArrayList<>();
    // what may come: "word", "number" (or a sign), "sign"
    String next = "word";
    int told = 0;
    Matcher tokens = TOKEN.matcher(text);
    while (tokens.find()) {
      String token = tokens.group();
      int fault = faultOf(token, next, read.size(), told);
      if (fault != 0) {
        latestFault = fault;
        return -1000100 - tokens.start();
      }
      if (token.equals(";")) {
        next = "word";
      } else if (next.equals("word")) {
        next = token.equals("round") ? "number" : "sign";
        told = 0;
        read.add(token.equals("twice") ? read.get(read.size() - 1) : new Round(token.equals("all"), 0));
      } else {
        told |= 1 << Integer.parseInt(token);
        read.set(read.size() - 1, new Round(false, told));
      }
    }
    if (!next.equals("word")) {
      latestFault = 1;
      return -1000100 - text.length();
    }
    rounds = read;
    return read.size();
  }

  private int faultOf(String token, String next, int many, int told) {
    boolean word = token.equals("round") || token.equals("all") || token.equals("twice");
    boolean number = token.matches("[0-9]{1,2}");
    boolean stands = next.equals("word") ? word : token.equals(";") || next.equals("number") && number;
    if (!stands) {
      return 1;
    }
    if (number && (Integer.parseInt(token) >= posts || has(told, Integer.parseInt(token)))) {
      return 2;
    }
    if (token.equals("twice") && many == 0) {
      return 2;
    }
    return word && many == 20 ? 3 : 0;
  }

  public int fault() {
    return latestFault;
  }

  public int round(int i) {
    if (!in(i, 0, rounds.size() - 1)) {
      return NONE;
    }
    return rounds.get(i).all() ? (1 << posts) - 1 : rounds.get(i).set();
  }

  public int run(int hearing, int post, int many) {
    if (!in(hearing, 0, 1) || !isPost(post) || !in(many, 0, 60)) {
      return BAD;
    }
    if (rounds.isEmpty()) {
      return STATE;
    }
    int knows = 1 << post;
    for (int r = 0; r < many; r++) {
      knows = spreads(hearing, knows, round(r % rounds.size()));
    }
    return knows;
  }

  public int least(int hearing, int knows, int what) {
    if (!in(hearing, 0, 1) || !isSet(knows) || knows == 0 || !in(what, 0, 1)) {
      return BAD;
    }
    int fewest = fewest(hearing, knows);
    if (what == 0 || fewest == 0) {
      return fewest;
    }
    int sounds = 0;
    while (fewest(hearing, spreads(hearing, knows, sounds)) != fewest - 1) {
      sounds++;
    }
    return sounds;
  }

  private int fewest(int hearing, int from) {
    int[] many = new int[256];
    Arrays.fill(many, NONE);
    many[from] = 0;
    ArrayDeque<Integer> open = new ArrayDeque<>(List.of(from));
    while (!open.isEmpty()) {
      int knows = open.remove();
      for (int sounds = 0; sounds < 1 << posts; sounds++) {
        int then = spreads(hearing, knows, sounds);
        if (many[then] == NONE) {
          many[then] = many[knows] + 1;
          open.add(then);
        }
      }
    }
    return many[reach(from)];
  }

  public int jammed(int hearing, int post, int spoilt) {
    if (!in(hearing, 0, 1) || !isPost(post) || !in(spoilt, 0, 5)) {
      return BAD;
    }
    if (rounds.isEmpty()) {
      return STATE;
    }
    int[][][] known = new int[61][256][6];
    int worst = worst(hearing, 1 << post, reach(1 << post), 0, spoilt, known);
    return worst > 60 ? NONE : worst;
  }

  /** How many rounds there are at the worst, of which r are behind us; what is known already is not found anew. */
  private int worst(int hearing, int knows, int goal, int r, int left, int[][][] known) {
    if (knows == goal) {
      return r;
    }
    if (r == 60) {
      return 61;
    }
    if (known[r][knows][left] == 0) {
      int then = spreads(hearing, knows, round(r % rounds.size()));
      int worst = worst(hearing, then, goal, r + 1, left, known);
      if (left > 0) {
        worst = Math.max(worst, worst(hearing, knows, goal, r + 1, left - 1, known));
      }
      known[r][knows][left] = worst;
    }
    return known[r][knows][left];
  }

  public long draws(int hearing, int post, int many) {
    if (!in(hearing, 0, 1) || !isPost(post) || !in(many, 0, 7)) {
      return BAD;
    }
    long[] cases = new long[256];
    cases[1 << post] = 1;
    for (int r = 0; r < many; r++) {
      long[] then = new long[256];
      for (int knows = 0; knows < 1 << posts; knows++) {
        for (int sounds = 0; cases[knows] != 0 && sounds < 1 << posts; sounds++) {
          then[spreads(hearing, knows, sounds)] += cases[knows];
        }
      }
      cases = then;
    }
    return cases[reach(1 << post)];
  }

  public int picks(int sheet, int i, int n, int k, int what) {
    if (!in(sheet, 0, 7) || !in(n, 1, 40) || !in(k, 1, 4) || !in(what, 0, 1)) {
      return BAD;
    }
    if (sheets[sheet] == null) {
      return found(NULL);
    }
    if (i < 0 || (long) i + n > sheets[sheet].length) {
      return found(PLACE);
    }
    for (int few = 1; few < 1 << posts; few++) {
      boolean picked = Integer.bitCount(few) > k;
      for (int at = i; at < i + n; at++) {
        picked |= Integer.bitCount(sheets[sheet][at] & few) == 1;
      }
      if (!picked) {
        return fine(what == 0 ? 0 : few);
      }
    }
    return fine(what == 0 ? 1 : NONE);
  }

  // ---- asked

  private Post postOf(int p) {
    int many = told(p, 0);
    boolean more = false;
    for (int q = 0; q < posts; q++) {
      more |= told(q, 0) > many;
    }
    return many == 0 ? new Lone(p) : many == 1 ? new Leaf(p) : more ? new Linked(p) : new Hub(p);
  }

  public int kind(int post) {
    return isPost(post) ? postOf(post).kind() : BAD;
  }

  public int as(int post, int kind) {
    if (!isPost(post) || !in(kind, 0, 4)) {
      return BAD;
    }
    Class<?>[] kinds = {Post.class, Linked.class, Leaf.class, Hub.class, Lone.class};
    return kinds[kind].isInstance(postOf(post)) ? fine(told(post, 0)) : found(KIND);
  }

  public int ask(int post, int what) {
    if (!isPost(post) || !in(what, 0, 1)) {
      return BAD;
    }
    trace.clear();
    return what == 0 ? postOf(post).size() : postOf(post).mark();
  }

  public int trace(int i) {
    return in(i, 0, Math.min(16, trace.size()) - 1) ? trace.get(i) : NONE;
  }

  public int count(int what) {
    int pairs = 0;
    int there = 0;
    int[] ofKind = new int[5];
    for (int a = 0; a < 8; a++) {
      there += sheets[a] == null ? 0 : 1;
      for (int b = 0; b < a; b++) {
        pairs += near[a][b] ? 1 : 0;
      }
    }
    for (int p = 0; p < posts; p++) {
      ofKind[kind(p)]++;
    }
    int[] all = {there, posts, pairs, rounds.size(), ofKind[2], ofKind[3], ofKind[4], tape.length()};
    return in(what, 0, 7) ? all[what] : BAD;
  }

  public int status() {
    return status;
  }

  /** The kinds as classes: what a kind has no body for, it takes from the nearest that it is, too. */
  private class Post {
    final int number;

    Post(int number) {
      this.number = number;
    }

    int kind() {
      return 0;
    }

    int size() {
      trace.add(10);
      return told(number, 0);
    }

    int mark() {
      trace.add(20);
      return number;
    }
  }

  private class Linked extends Post {
    Linked(int number) {
      super(number);
    }

    @Override
    int kind() {
      return 1;
    }

    @Override
    int size() {
      trace.add(11);
      return super.size() + told(number, 2);
    }
  }

  private class Leaf extends Linked {
    Leaf(int number) {
      super(number);
    }

    @Override
    int kind() {
      return 2;
    }

    @Override
    int size() {
      trace.add(12);
      return super.size() * 2;
    }
  }

  private class Hub extends Linked {
    Hub(int number) {
      super(number);
    }

    @Override
    int kind() {
      return 3;
    }

    @Override
    int size() {
      trace.add(13);
      return super.size() + mark();
    }

    @Override
    int mark() {
      trace.add(21);
      return super.mark() + 100;
    }
  }

  private class Lone extends Post {
    Lone(int number) {
      super(number);
    }

    @Override
    int kind() {
      return 4;
    }

    @Override
    int mark() {
      trace.add(22);
      return super.mark() + size();
    }
  }
}
