import java.util.Arrays;

/** Posts of a net that talk by beeps: sheets, schedules, searches and asks. */
public final class BeepNet {
    public static final int NONE = -1000000, BAD = -1000001, STATE = -1000002, FULL = -1000003;

    private static final int FINDING = -1000010;
    private static final int FOUND_NULL = 1, FOUND_PLACE = 2, FOUND_KIND = 3, FOUND_SIZE = 4, FOUND_STORE = 5;
    private static final int FAULT_AT = -1000100;
    private static final int SHEETS_MOST = 8, ITEMS_MOST = 40, LANES = 3;
    private static final int POSTS_MOST = 8, SETS = 256;
    private static final int TAPE_MOST = 300, ROUNDS_MOST = 20, TRACE_MOST = 16;
    private static final int RUN_MOST = 60, SPOILT_MOST = 5, DRAWS_MOST = 7, FEW_MOST = 4;
    private static final int BEEPS = 0, TALK = 1;
    private static final int PLAIN = 0, LINKED = 1, LEAF = 2, HUB = 3, LONE = 4;

    private final Sheets sheets;
    private final Net net;
    private final Reader reader;
    private final Timetable timetable;
    private final Search search;
    private final Asks asks;
    private int latestFinding;
    private int latestFault;

    public BeepNet() {
        sheets = new Sheets();
        net = new Net();
        reader = new Reader();
        timetable = new Timetable();
        search = new Search();
        asks = new Asks(net);
    }

    // ---- sheets

    public int sheet(int sheet, int lane, int n) {
        if (!isSheet(sheet) || lane < 0 || lane >= LANES || n > ITEMS_MOST) {
            return BAD;
        }
        latestFinding = n < 0 ? FOUND_SIZE : 0;
        if (latestFinding != 0) {
            return FINDING - latestFinding;
        }
        sheets.begin(sheet, lane, n);
        return n;
    }

    public int set(int sheet, int i, int v) {
        if (!isSheet(sheet)) {
            return BAD;
        }
        latestFinding = sheets.findPlaces(sheet, i, 1);
        return latestFinding != 0 ? FINDING - latestFinding : sheets.put(sheet, i, v);
    }

    public int copy(int a, int i, int b, int j, int n) {
        if (!isSheet(a) || !isSheet(b)) {
            return BAD;
        }
        latestFinding = sheets.findMove(a, i, b, j, n);
        if (latestFinding != 0) {
            return FINDING - latestFinding;
        }
        sheets.move(a, i, b, j, n);
        return n;
    }

    public int drop(int sheet) {
        if (!isSheet(sheet)) {
            return BAD;
        }
        latestFinding = sheets.isMissing(sheet) ? FOUND_NULL : 0;
        return latestFinding != 0 ? FINDING - latestFinding : sheets.remove(sheet);
    }

    // ---- the net

    public int post() {
        return net.isFull() ? FULL : net.add();
    }

    public int join(int a, int b) {
        if (!isPair(a, b)) {
            return BAD;
        }
        return net.isLinked(a, b) ? 0 : net.toggle(a, b);
    }

    public int part(int a, int b) {
        if (!isPair(a, b)) {
            return BAD;
        }
        return net.isLinked(a, b) ? net.toggle(a, b) : 0;
    }

    public int far(int a, int b) {
        if (!net.hasPost(a) || !net.hasPost(b)) {
            return BAD;
        }
        return net.stepsBetween(a, b);
    }

    public int told(int post, int what) {
        if (!net.hasPost(post)) {
            return BAD;
        }
        switch (what) {
            case 0:
                return net.degree(post);
            case 1:
                return net.neighboursOf(post);
            case 2:
                return net.width(post);
            case 3:
                return net.reachOf(1 << post);
            default:
                return BAD;
        }
    }

    // ---- rounds

    public int hears(int hearing, int sounds) {
        if (!isHearing(hearing) || !net.hasSet(sounds)) {
            return BAD;
        }
        return net.heardBy(hearing, sounds);
    }

    public int spreads(int hearing, int knows, int sounds) {
        if (!isHearing(hearing) || !net.hasSet(knows) || !net.hasSet(sounds)) {
            return BAD;
        }
        return net.knowAfter(hearing, knows, sounds);
    }

    public int feed(long w, int n) {
        if (n < 1 || n > 8) {
            return BAD;
        }
        return reader.hasRoom(n) ? reader.take(w, n) : FULL;
    }

    public int schedule() {
        int fault = reader.read(net.size());
        if (fault != 0) {
            latestFault = fault;
            return FAULT_AT - reader.tokenPlace();
        }
        timetable.become(reader);
        return timetable.size();
    }

    public int fault() {
        return latestFault;
    }

    public int round(int i) {
        return timetable.hasRound(i) ? timetable.soundsIn(i, net.allPosts()) : NONE;
    }

    public int run(int hearing, int post, int rounds) {
        if (!isHearing(hearing) || !net.hasPost(post) || rounds < 0 || rounds > RUN_MOST) {
            return BAD;
        }
        if (timetable.size() == 0) {
            return STATE;
        }
        int known = 1 << post;
        for (int r = 0; r < rounds; r++) {
            known = net.knowAfter(hearing, known, timetable.soundsOverAndOver(r, net.allPosts()));
        }
        return known;
    }

    public int least(int hearing, int knows, int what) {
        if (!isHearing(hearing) || knows == 0 || !net.hasSet(knows) || what < 0 || what > 1) {
            return BAD;
        }
        search.listen(net, hearing);
        search.findFewest(knows, net.reachOf(knows));
        return what == 0 ? search.fewestFrom(knows) : search.firstSet(knows);
    }

    public int jammed(int hearing, int post, int spoilt) {
        if (!isHearing(hearing) || !net.hasPost(post) || spoilt < 0 || spoilt > SPOILT_MOST) {
            return BAD;
        }
        if (timetable.size() == 0) {
            return STATE;
        }
        search.listen(net, hearing);
        return search.worstRounds(net, timetable, post, spoilt);
    }

    public long draws(int hearing, int post, int rounds) {
        if (!isHearing(hearing) || !net.hasPost(post) || rounds < 0 || rounds > DRAWS_MOST) {
            return BAD;
        }
        search.listen(net, hearing);
        return search.casesThatReachAll(net, post, rounds);
    }

    public int picks(int sheet, int i, int n, int k, int what) {
        if (!isSheet(sheet) || n < 1 || n > ITEMS_MOST || k < 1 || k > FEW_MOST || what < 0 || what > 1) {
            return BAD;
        }
        latestFinding = sheets.findPlaces(sheet, i, n);
        if (latestFinding != 0) {
            return FINDING - latestFinding;
        }
        int unpicked = firstUnpicked(sheet, i, n, k);
        if (what == 1) {
            return unpicked;
        }
        return unpicked == NONE ? 1 : 0;
    }

    // ---- asked

    public int kind(int post) {
        return net.hasPost(post) ? net.kindOf(post) : BAD;
    }

    public int as(int post, int kind) {
        if (!net.hasPost(post) || kind < PLAIN || kind > LONE) {
            return BAD;
        }
        latestFinding = net.isOfKind(post, kind) ? 0 : FOUND_KIND;
        return latestFinding != 0 ? FINDING - latestFinding : net.degree(post);
    }

    public int ask(int post, int what) {
        if (!net.hasPost(post) || what < 0 || what > 1) {
            return BAD;
        }
        return asks.answer(post, what);
    }

    public int trace(int i) {
        return asks.begunBody(i);
    }

    public int count(int what) {
        switch (what) {
            case 0:
                return sheets.size();
            case 1:
                return net.size();
            case 2:
                return net.pairs();
            case 3:
                return timetable.size();
            case 4:
                return net.countOf(LEAF);
            case 5:
                return net.countOf(HUB);
            case 6:
                return net.countOf(LONE);
            case 7:
                return reader.size();
            default:
                return BAD;
        }
    }

    public int status() {
        return latestFinding;
    }

    private static boolean isSheet(int sheet) {
        return sheet >= 0 && sheet < SHEETS_MOST;
    }

    private static boolean isHearing(int hearing) {
        return hearing == BEEPS || hearing == TALK;
    }

    private boolean isPair(int a, int b) {
        return net.hasPost(a) && net.hasPost(b) && a != b;
    }

    private int firstUnpicked(int sheet, int i, int n, int k) {
        for (int few = 1; few <= net.allPosts(); few++) {
            if (Integer.bitCount(few) <= k && !sheets.picksOne(sheet, i, n, few)) {
                return few;
            }
        }
        return NONE;
    }

    /** The eight sheets; rows stand from the start and are used again. */
    private static final class Sheets {
        private static final int MISSING = -1, BYTES = 0, SHORTS = 1;

        private final int[] lanes = new int[SHEETS_MOST];
        private final int[] sizes = new int[SHEETS_MOST];
        private final int[][] items = new int[SHEETS_MOST][ITEMS_MOST];

        Sheets() {
            Arrays.fill(lanes, MISSING);
        }

        boolean isMissing(int sheet) {
            return lanes[sheet] == MISSING;
        }

        int size() {
            int there = 0;
            for (int s = 0; s < SHEETS_MOST; s++) {
                there += isMissing(s) ? 0 : 1;
            }
            return there;
        }

        void begin(int sheet, int lane, int n) {
            lanes[sheet] = lane;
            sizes[sheet] = n;
            Arrays.fill(items[sheet], 0);
        }

        int remove(int sheet) {
            lanes[sheet] = MISSING;
            return sizes[sheet];
        }

        int findPlaces(int sheet, int i, int n) {
            if (isMissing(sheet)) {
                return FOUND_NULL;
            }
            return hasPlaces(sheet, i, n) ? 0 : FOUND_PLACE;
        }

        int findMove(int a, int i, int b, int j, int n) {
            if (isMissing(a) || isMissing(b)) {
                return FOUND_NULL;
            }
            if (lanes[a] != lanes[b]) {
                return FOUND_STORE;
            }
            return hasPlaces(a, i, n) && hasPlaces(b, j, n) ? 0 : FOUND_PLACE;
        }

        // n comes off the size, since i + n could wrap around.
        private boolean hasPlaces(int sheet, int i, int n) {
            return i >= 0 && n >= 0 && i <= sizes[sheet] && n <= sizes[sheet] - i;
        }

        int put(int sheet, int i, int v) {
            items[sheet][i] = narrowed(lanes[sheet], v);
            return items[sheet][i];
        }

        private static int narrowed(int lane, int v) {
            if (lane == BYTES) {
                return (byte) v;
            }
            return lane == SHORTS ? (short) v : v;
        }

        void move(int a, int i, int b, int j, int n) {
            System.arraycopy(items[a], i, items[b], j, n);
        }

        boolean picksOne(int sheet, int i, int n, int few) {
            for (int at = i; at < i + n; at++) {
                if (Integer.bitCount(items[sheet][at] & few) == 1) {
                    return true;
                }
            }
            return false;
        }
    }

    /** The posts and who is a neighbour of whom; sets of posts are bits. */
    private static final class Net {
        private final int[] neighbours = new int[POSTS_MOST];
        private int posts;

        int size() {
            return posts;
        }

        boolean isFull() {
            return posts >= POSTS_MOST;
        }

        int add() {
            posts++;
            return posts - 1;
        }

        boolean hasPost(int post) {
            return post >= 0 && post < posts;
        }

        int allPosts() {
            return (1 << posts) - 1;
        }

        boolean hasSet(int set) {
            return (set & ~allPosts()) == 0;
        }

        boolean isLinked(int a, int b) {
            return (neighbours[a] >> b & 1) == 1;
        }

        int toggle(int a, int b) {
            neighbours[a] ^= 1 << b;
            neighbours[b] ^= 1 << a;
            return 1;
        }

        int neighboursOf(int post) {
            return neighbours[post];
        }

        int degree(int post) {
            return Integer.bitCount(neighbours[post]);
        }

        int pairs() {
            int ends = 0;
            for (int p = 0; p < posts; p++) {
                ends += degree(p);
            }
            return ends / 2;
        }

        private int oneStepFrom(int set) {
            int reached = set;
            for (int p = 0; p < posts; p++) {
                if ((set >> p & 1) == 1) {
                    reached |= neighbours[p];
                }
            }
            return reached;
        }

        int reachOf(int set) {
            int reached = set;
            for (int steps = 1; steps < posts; steps++) {
                reached = oneStepFrom(reached);
            }
            return reached;
        }

        int stepsBetween(int a, int b) {
            int reached = 1 << a;
            for (int steps = 0; steps < posts; steps++) {
                if ((reached >> b & 1) == 1) {
                    return steps;
                }
                reached = oneStepFrom(reached);
            }
            return NONE;
        }

        int width(int post) {
            int reached = 1 << post;
            int width = 0;
            for (int steps = 1; steps < posts; steps++) {
                int next = oneStepFrom(reached);
                width = next == reached ? width : steps;
                reached = next;
            }
            return width;
        }

        int heardBy(int hearing, int sounds) {
            int oneOrMore = 0;
            int twoOrMore = 0;
            for (int p = 0; p < posts; p++) {
                if ((sounds >> p & 1) == 1) {
                    twoOrMore |= oneOrMore & neighbours[p];
                    oneOrMore |= neighbours[p];
                }
            }
            int heard = hearing == TALK ? oneOrMore & ~twoOrMore : oneOrMore;
            return heard & ~sounds;
        }

        // Who sounds without knowing is as silent as the rest, and so may hear, too.
        int knowAfter(int hearing, int knows, int sounds) {
            return knows | heardBy(hearing, knows & sounds);
        }

        int kindOf(int post) {
            int degree = degree(post);
            if (degree == 0) {
                return LONE;
            }
            if (degree == 1) {
                return LEAF;
            }
            return degree == mostNeighbours() ? HUB : LINKED;
        }

        private int mostNeighbours() {
            int most = 0;
            for (int p = 0; p < posts; p++) {
                most = Math.max(most, degree(p));
            }
            return most;
        }

        boolean isOfKind(int post, int kind) {
            int told = kindOf(post);
            return kind == PLAIN || kind == told || kind == LINKED && told != LONE;
        }

        int countOf(int kind) {
            int there = 0;
            for (int p = 0; p < posts; p++) {
                there += kindOf(p) == kind ? 1 : 0;
            }
            return there;
        }
    }

    /** The rounds of the schedule that was read last without a fault. */
    private static final class Timetable {
        private final int[] rounds = new int[ROUNDS_MOST];
        private int size;

        int size() {
            return size;
        }

        void become(Reader reader) {
            size = reader.giveRounds(rounds);
        }

        boolean hasRound(int i) {
            return i >= 0 && i < size;
        }

        int soundsIn(int i, int allPosts) {
            return rounds[i] & allPosts;
        }

        int soundsOverAndOver(int r, int allPosts) {
            return size == 0 ? 0 : soundsIn(r % size, allPosts);
        }
    }

    /** The tape, and the reading of it token by token. */
    private static final class Reader {
        private static final String ROUND_WORD = "round", ALL_WORD = "all", TWICE_WORD = "twice";
        private static final int END = 0, NO_TOKEN = 1, ROUND = 2, ALL = 3, TWICE = 4, NUMBER = 5, SIGN = 6;
        private static final int FIGURES_MOST = 2;
        private static final int WRONG_TOKEN = 1, WRONG_MEANING = 2, TOO_MANY = 3;
        // Every bit, so that posts that come later sound as well.
        private static final int WHOEVER_IS_THERE = -1;

        private final int[] tape = new int[TAPE_MOST];
        private final int[] rounds = new int[ROUNDS_MOST];
        private int length;
        private int roundsRead;
        private int token;
        private int start;
        private int behind;
        private int number;

        int size() {
            return length;
        }

        boolean hasRoom(int n) {
            return n <= TAPE_MOST - length;
        }

        int take(long w, int n) {
            for (int left = n - 1; left >= 0; left--) {
                tape[length] = (int) (w >>> 8 * left & 255L);
                length++;
            }
            return length;
        }

        int giveRounds(int[] taker) {
            System.arraycopy(rounds, 0, taker, 0, roundsRead);
            return roundsRead;
        }

        int tokenPlace() {
            return start;
        }

        /** Answers the number of the first fault, or 0; tokenPlace() tells where. */
        int read(int posts) {
            int fault = 0;
            roundsRead = 0;
            behind = 0;
            advance();
            for (int word = 0; word <= ROUNDS_MOST && fault == 0 && token != END; word++) {
                fault = readRound(posts);
            }
            length = 0;
            return fault;
        }

        private int readRound(int posts) {
            int word = token;
            int fault = faultOfWord();
            if (fault != 0) {
                return fault;
            }
            rounds[roundsRead] = soundsAtWord(word);
            advance();
            if (word == ROUND) {
                fault = readNumbers(posts);
            }
            if (fault == 0 && token != SIGN) {
                fault = WRONG_TOKEN;
            }
            if (fault == 0) {
                roundsRead++;
                advance();
            }
            return fault;
        }

        private int faultOfWord() {
            if (token != ROUND && token != ALL && token != TWICE) {
                return WRONG_TOKEN;
            }
            if (token == TWICE && roundsRead == 0) {
                return WRONG_MEANING;
            }
            return roundsRead >= ROUNDS_MOST ? TOO_MANY : 0;
        }

        private int soundsAtWord(int word) {
            if (word == ALL) {
                return WHOEVER_IS_THERE;
            }
            return word == TWICE && roundsRead > 0 ? rounds[roundsRead - 1] : 0;
        }

        // A post told again is a fault, so no more numbers than posts can go by.
        private int readNumbers(int posts) {
            for (int told = 0; told <= POSTS_MOST && token == NUMBER; told++) {
                if (number >= posts || (rounds[roundsRead] >> number & 1) == 1) {
                    return WRONG_MEANING;
                }
                rounds[roundsRead] |= 1 << number;
                advance();
            }
            return 0;
        }

        private void advance() {
            start = behind;
            while (start < length && (tape[start] == ' ' || tape[start] == '\n')) {
                start++;
            }
            behind = start;
            if (start >= length) {
                token = END;
            } else if (isLetter(tape[start])) {
                advanceName();
            } else if (isFigure(tape[start])) {
                advanceNumber();
            } else {
                behind = start + 1;
                token = tape[start] == ';' ? SIGN : NO_TOKEN;
            }
        }

        // A name that is too long is none of the three words either.
        private void advanceName() {
            while (behind < length && isLetter(tape[behind])) {
                behind++;
            }
            token = NO_TOKEN;
            if (isWord(ROUND_WORD)) {
                token = ROUND;
            } else if (isWord(ALL_WORD)) {
                token = ALL;
            } else if (isWord(TWICE_WORD)) {
                token = TWICE;
            }
        }

        private boolean isWord(String word) {
            if (behind - start != word.length()) {
                return false;
            }
            for (int i = 0; i < word.length(); i++) {
                if (tape[start + i] != word.charAt(i)) {
                    return false;
                }
            }
            return true;
        }

        private void advanceNumber() {
            number = 0;
            while (behind < length && isFigure(tape[behind])) {
                number = behind - start < FIGURES_MOST ? number * 10 + tape[behind] - '0' : number;
                behind++;
            }
            token = behind - start <= FIGURES_MOST ? NUMBER : NO_TOKEN;
        }

        private static boolean isLetter(int b) {
            return b >= 'a' && b <= 'z';
        }

        private static boolean isFigure(int b) {
            return b >= '0' && b <= '9';
        }
    }

    /**
     * Goes through all ways that word can take. Sets that know only grow, so each row is filled from
     * the greatest set down: what a set becomes has a greater number and is done already.
     */
    private static final class Search {
        private final int[] heard = new int[SETS];
        private final int[] fewest = new int[SETS];
        private final int[] spent = new int[SETS];
        private final long[] cases = new long[SETS];

        /** Keeps who hears each set of tellers; ahead of every search. */
        void listen(Net net, int hearing) {
            for (int tellers = 0; tellers <= net.allPosts(); tellers++) {
                heard[tellers] = net.heardBy(hearing, tellers);
            }
        }

        void findFewest(int knows, int goal) {
            fewest[goal] = 0;
            for (int known = goal - 1; known >= knows; known--) {
                if ((known & knows) == knows && (known & ~goal) == 0) {
                    fewest[known] = 1 + fewestBehindOneRound(known);
                }
            }
        }

        // Tellers go through the subsets of known, each a smaller number than the one ahead.
        private int fewestBehindOneRound(int known) {
            int best = POSTS_MOST;
            for (int tellers = known; tellers > 0; tellers = tellers - 1 & known) {
                int next = known | heard[tellers];
                if (next != known) {
                    best = Math.min(best, fewest[next]);
                }
            }
            return best;
        }

        int fewestFrom(int knows) {
            return fewest[knows];
        }

        int firstSet(int knows) {
            for (int tellers = 1; tellers <= knows; tellers++) {
                if ((tellers & ~knows) == 0 && fewest[knows | heard[tellers]] < fewest[knows]) {
                    return tellers;
                }
            }
            return 0;
        }

        /** A row of the fewest spoilt rounds with which the jammer can keep word to each set. */
        int worstRounds(Net net, Timetable timetable, int post, int budget) {
            int first = 1 << post;
            int goal = net.reachOf(first);
            if (first == goal) {
                return 0;
            }
            Arrays.fill(spent, budget + 1);
            spent[first] = 0;
            for (int r = 0; r < RUN_MOST; r++) {
                int sounds = timetable.soundsOverAndOver(r, net.allPosts());
                if (!leavesSomeUntold(first, goal, sounds, budget)) {
                    return r + 1;
                }
            }
            return NONE;
        }

        private boolean leavesSomeUntold(int first, int goal, int sounds, int budget) {
            boolean untold = false;
            for (int known = goal - 1; known >= first; known--) {
                int cost = spent[known];
                if (cost <= budget) {
                    int next = known | heard[known & sounds];
                    if (next != known) {
                        spent[next] = Math.min(spent[next], cost);
                        spent[known] = cost + 1;
                    }
                    untold = untold || next != goal || cost < budget;
                }
            }
            return untold;
        }

        long casesThatReachAll(Net net, int post, int rounds) {
            int first = 1 << post;
            int goal = net.reachOf(first);
            Arrays.fill(cases, 0L);
            cases[first] = 1L;
            for (int r = 0; r < rounds; r++) {
                drawOneRound(net.size(), first, goal);
            }
            return cases[goal];
        }

        private void drawOneRound(int posts, int first, int goal) {
            cases[goal] <<= posts;
            for (int known = goal - 1; known >= first; known--) {
                if (cases[known] != 0L) {
                    drawFrom(posts, known);
                }
            }
        }

        // Whether those sound that don't know changes nothing, but doubles the cases.
        private void drawFrom(int posts, int known) {
            long each = cases[known] << posts - Integer.bitCount(known);
            cases[known] = each;
            for (int tellers = known; tellers > 0; tellers = tellers - 1 & known) {
                cases[known | heard[tellers]] += each;
            }
        }
    }

    /** The asks, body by body, and the trace that the bodies leave. */
    private static final class Asks {
        private static final int DEEPEST = 3;

        private final Net net;
        private final int[] begun = new int[TRACE_MOST];
        private int length;

        Asks(Net net) {
            this.net = net;
        }

        int begunBody(int i) {
            return i >= 0 && i < length ? begun[i] : NONE;
        }

        int answer(int post, int what) {
            length = 0;
            return what == 0 ? sizeOf(post, 0) : markOf(post, 0);
        }

        private void leave(int body) {
            if (length < TRACE_MOST) {
                begun[length] = body;
                length++;
            }
        }

        private int sizeOf(int post, int depth) {
            if (depth > DEEPEST) {
                return 0;
            }
            switch (net.kindOf(post)) {
                case LEAF:
                    return sizeOfLeaf(post);
                case HUB:
                    return sizeOfHub(post, depth);
                case LINKED:
                    return sizeOfLinked(post);
                default:
                    return sizeLent(post);
            }
        }

        private int sizeLent(int post) {
            leave(10);
            return net.degree(post);
        }

        private int sizeOfLinked(int post) {
            leave(11);
            return sizeLent(post) + net.width(post);
        }

        private int sizeOfLeaf(int post) {
            leave(12);
            return 2 * sizeOfLinked(post);
        }

        private int sizeOfHub(int post, int depth) {
            leave(13);
            int linked = sizeOfLinked(post);
            return linked + markOf(post, depth + 1);
        }

        private int markOf(int post, int depth) {
            if (depth > DEEPEST) {
                return 0;
            }
            switch (net.kindOf(post)) {
                case HUB:
                    return markOfHub(post);
                case LONE:
                    return markOfLone(post, depth);
                default:
                    return markLent(post);
            }
        }

        private int markLent(int post) {
            leave(20);
            return post;
        }

        private int markOfHub(int post) {
            leave(21);
            return markLent(post) + 100;
        }

        private int markOfLone(int post, int depth) {
            leave(22);
            int mark = markLent(post);
            return mark + sizeOf(post, depth + 1);
        }
    }
}
