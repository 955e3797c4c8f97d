import java.util.Arrays;

/**
 * Helpers put together: talks that are joined, fitted and adapted, helpers that stand in a row,
 * and a log of calls as all worlds there may be. The words in comments are the document's.
 */
public final class HelperWeave {
    public static final int NONE = -1, UNKNOWN = -101, OUTSIDE = -102, STATE = -103, FULL = -104;

    private static final int MOST_LETTERS = 80;
    private static final int GREATEST_LETTER = 126;
    // a step takes two letters, so a page has no more of them than this
    private static final int MOST_READ = 40;
    private static final int MOST_TALKS = 6;
    private static final int MOST_STEPS = 24;
    private static final int MOST_STATES = 25;
    private static final int MOST_PAIRS = 625;
    private static final int MESSAGES = 8;
    private static final int KINDS = 16;
    private static final int HEARD = 0, SAID = 1;

    private static final int GOES_WELL = 0, STUCK = 1, UNHEARD = 2, SPENT = 3;
    private static final int MOST_WALKED = 4000;
    private static final int SLOT_BITS = 13;
    private static final int SLOTS = 8192;
    private static final int A_SAYS = 0, B_SAYS = 8, A_HEARS = 16, B_HEARS = 17;
    private static final int LONGEST_QUEUE = 2;

    private static final int MOST_ADAPTED = 5;
    // ways to put five unlike messages out of eight: 8 * 7 * 6 * 5 * 4
    private static final int MOST_ADAPTERS = 6720;

    private static final int FACTS = 12;
    private static final int ALL_FACTS = 4095;
    private static final int GREATEST_LEVEL = 3;
    private static final int MOST_HELPERS = 8;
    private static final int PRICE = 0, FAILS = 1, QUOTA = 2, TRUST = 3, UNDO = 4;
    private static final int NEEDS = 5, GIVES = 6, TAKES = 7, TRAITS = 8;
    private static final int[] LEAST_TRAIT = {0, 0, 1, 0};
    private static final int[] GREATEST_TRAIT = {50, 9, 3, 3};
    private static final int LONGEST_ROW = 5;
    private static final int MOST_TRIES = 3;

    private static final int MOST_EVENTS = 30;
    private static final int DONE = 0, LOST = 2;
    private static final int WORDS = 64;
    private static final int WORD_FACTS = 6;
    private static final long[] WITH_FACT = {
        0xAAAAAAAAAAAAAAAAL, 0xCCCCCCCCCCCCCCCCL, 0xF0F0F0F0F0F0F0F0L,
        0xFF00FF00FF00FF00L, 0xFFFF0000FFFF0000L, 0xFFFFFFFF00000000L};

    // dear calls are refused beyond this many
    private static final int MOST_DONE = 20;

    private final Page page = new Page();
    private final Talk[] talks = new Talk[MOST_TALKS];
    private int talkCount;
    private final Walk walk = new Walk();
    private final Fitting fitting = new Fitting();
    private final Adapting adapting = new Adapting();
    private int queueJoins;
    private int adaptings;
    private final Row row = new Row();
    private int plans;
    private final Log log = new Log();

    public HelperWeave() {
        log.startWith(0);
    }

    // ---- talks

    public int letters(long w) {
        int more = Page.lettersIn(w);
        if (more == NONE) {
            return OUTSIDE;
        }
        if (page.size + more > MOST_LETTERS) {
            return FULL;
        }
        page.write(w, more);
        return page.size;
    }

    public int blank() {
        int had = page.size;
        page.size = 0;
        return had;
    }

    public int good() {
        return page.read();
    }

    public int talk() {
        int read = page.read();
        if (read < page.size || !page.isWhole()) {
            return STATE;
        }
        if (page.steps > MOST_STEPS || page.isTwofold()) {
            return OUTSIDE;
        }
        if (talkCount >= MOST_TALKS) {
            return FULL;
        }
        talks[talkCount] = new Talk(page);
        talkCount++;
        page.size = 0;
        return talkCount - 1;
    }

    public int steps(int t) {
        Talk talk = talkNumbered(t);
        return talk == null ? UNKNOWN : talk.steps;
    }

    public int next(int t, int state, int sign, int m) {
        Talk talk = talkNumbered(t);
        if (talk == null || !talk.has(state)) {
            return UNKNOWN;
        }
        if (!isSign(sign) || !isMessage(m)) {
            return OUTSIDE;
        }
        return talk.behind(state, sign, m);
    }

    public int ends(int t, int state) {
        Talk talk = talkNumbered(t);
        if (talk == null || !talk.has(state)) {
            return UNKNOWN;
        }
        return talk.mayEnd(state) ? 1 : 0;
    }

    public int uses(int t, int sign) {
        Talk talk = talkNumbered(t);
        if (talk == null) {
            return UNKNOWN;
        }
        if (!isSign(sign)) {
            return OUTSIDE;
        }
        return talk.messagesOf(sign);
    }

    // ---- joined

    public int join(int a, int b, int k) {
        Talk one = talkNumbered(a);
        Talk other = talkNumbered(b);
        if (one == null || other == null) {
            return UNKNOWN;
        }
        if (k < 0 || k > LONGEST_QUEUE) {
            return OUTSIDE;
        }
        if (k > 0) {
            if (queueJoins >= MOST_DONE) {
                return STATE;
            }
            queueJoins++;
        }
        return walk.through(one, other, k);
    }

    public int walked() {
        return walk.size;
    }

    public int trace(int i) {
        return walk.stepToFault(i);
    }

    public int fit(int x, int y) {
        Talk one = talkNumbered(x);
        Talk other = talkNumbered(y);
        if (one == null || other == null) {
            return UNKNOWN;
        }
        fitting.compare(one, other);
        return fitting.holds(0, 0) ? 1 : 0;
    }

    public int swap(int x, int y, int q) {
        Talk one = talkNumbered(x);
        Talk other = talkNumbered(y);
        if (one == null || other == null || !other.has(q)) {
            return UNKNOWN;
        }
        fitting.compare(one, other);
        for (int p = 0; p <= one.steps; p++) {
            if (fitting.holds(p, q)) {
                return p;
            }
        }
        return NONE;
    }

    public int adapters(int a, int b) {
        int refusal = adaptingRefusal(a, b, 0);
        if (refusal != 0) {
            return refusal;
        }
        adapt(a, b);
        return adapting.count;
    }

    public int adapter(int a, int b, int i, int m) {
        int refusal = adaptingRefusal(a, b, m);
        if (refusal != 0) {
            return refusal;
        }
        adapt(a, b);
        return adapting.becomes(i, m);
    }

    // ---- helpers

    public int helper(int needs, int gives, int takes) {
        if (!isFacts(needs) || !isFacts(gives) || !isFacts(takes)) {
            return OUTSIDE;
        }
        if (row.helperCount >= MOST_HELPERS) {
            return FULL;
        }
        return row.addHelper(new Helper(needs, gives, takes));
    }

    public int set(int s, int what, int v) {
        Helper helper = row.helperNumbered(s);
        if (helper == null || what < PRICE || what > UNDO) {
            return UNKNOWN;
        }
        if (what == UNDO) {
            if (v != NONE && row.helperNumbered(v) == null) {
                return UNKNOWN;
            }
        } else if (v < LEAST_TRAIT[what] || v > GREATEST_TRAIT[what]) {
            return OUTSIDE;
        }
        int was = helper.traits[what];
        helper.traits[what] = v;
        return was;
    }

    public int level(int f, int v) {
        if (!isFact(f)) {
            return UNKNOWN;
        }
        if (v < 0 || v > GREATEST_LEVEL) {
            return OUTSIDE;
        }
        int was = row.levels[f];
        row.levels[f] = v;
        return was;
    }

    public int about(int s, int what) {
        Helper helper = row.helperNumbered(s);
        if (helper == null) {
            return UNKNOWN;
        }
        if (what < 0 || what >= TRAITS) {
            return OUTSIDE;
        }
        return helper.traits[what];
    }

    // ---- rows

    public int put(int s) {
        if (row.helperNumbered(s) == null) {
            return UNKNOWN;
        }
        if (row.size >= LONGEST_ROW) {
            return FULL;
        }
        row.places[row.size] = s;
        row.size++;
        return row.size;
    }

    public int empty() {
        int had = row.size;
        row.size = 0;
        return had;
    }

    public int at(int i) {
        return i < 0 || i >= row.size ? NONE : row.places[i];
    }

    public int stops(int facts) {
        return isFacts(facts) ? row.firstStop(facts) : OUTSIDE;
    }

    public int after(int facts) {
        int refusal = goingRefusal(facts);
        return refusal != 0 ? refusal : row.end().facts;
    }

    public int taint(int facts, int f) {
        if (!isFact(f)) {
            return UNKNOWN;
        }
        int refusal = goingRefusal(facts);
        if (refusal != 0) {
            return refusal;
        }
        Going end = row.end();
        return hasBit(end.facts, f) ? end.taints[f] : NONE;
    }

    public int costs() {
        return row.sumOfPrices();
    }

    public int plan(int facts, int wish, int most) {
        if (!isFacts(facts) || !isFacts(wish) || most < 0 || most > LONGEST_ROW) {
            return OUTSIDE;
        }
        if (plans >= MOST_DONE) {
            return STATE;
        }
        plans++;
        return row.becomeBest(facts, wish, most);
    }

    public long chance(int r, int part) {
        if (!isTries(r) || !isPart(part)) {
            return OUTSIDE;
        }
        long above = 1;
        long below = 1;
        for (int i = 0; i < row.size; i++) {
            above *= row.helperAt(i).chancesOfGoing(r);
            below *= power(10, r);
        }
        return lowest(above, below, part);
    }

    public long mean(int r, int part) {
        if (!isTries(r) || !isPart(part)) {
            return OUTSIDE;
        }
        long above = 0;
        long below = 1;
        // from the last place to the first: what comes behind is paid only if a place does not stop
        for (int i = row.size - 1; i >= 0; i--) {
            Helper helper = row.helperAt(i);
            above = helper.meanOfTries(r) * below + helper.chancesOfGoing(r) * above;
            below *= power(10, r);
        }
        return lowest(above, below, part);
    }

    public int undone(int facts) {
        int refusal = goingRefusal(facts);
        return refusal != 0 ? refusal : row.undoings(facts);
    }

    // ---- the log

    public int begin(int facts) {
        if (!isFacts(facts)) {
            return OUTSIDE;
        }
        log.startWith(facts);
        return 1;
    }

    public int call(int s, int how) {
        Helper helper = row.helperNumbered(s);
        if (helper == null) {
            return UNKNOWN;
        }
        if (how < DONE || how > LOST) {
            return OUTSIDE;
        }
        if (log.events >= MOST_EVENTS) {
            return FULL;
        }
        log.addCall(helper, how);
        return log.events;
    }

    public int see(int f, boolean is) {
        if (!isFact(f)) {
            return UNKNOWN;
        }
        if (log.events >= MOST_EVENTS) {
            return FULL;
        }
        log.addSight(f, is);
        return log.events;
    }

    public int strike() {
        if (log.events == 0) {
            return STATE;
        }
        log.events--;
        return log.events;
    }

    public int worlds(int t) {
        return t < 0 || t > log.events ? UNKNOWN : log.behind[t].size();
    }

    public int held(int side) {
        if (side < 0 || side > 1) {
            return OUTSIDE;
        }
        Worlds last = log.last();
        if (last.size() == 0) {
            return STATE;
        }
        return side == 0 ? last.heldInAll() : last.heldInSome();
    }

    public int world(int i) {
        return log.last().numbered(i);
    }

    public int broken() {
        for (int t = 1; t <= log.events; t++) {
            if (log.behind[t].size() == 0) {
                return t;
            }
        }
        return 0;
    }

    public int again(int s) {
        Helper helper = row.helperNumbered(s);
        if (helper == null) {
            return UNKNOWN;
        }
        Worlds last = log.last();
        if (last.size() == 0) {
            return STATE;
        }
        int due = helper.traits[NEEDS] | helper.traits[GIVES];
        int lost = helper.traits[TAKES] & ~helper.traits[GIVES];
        return (due & ~last.heldInAll()) == 0 && (lost & last.heldInSome()) == 0 ? 1 : 0;
    }

    // ---- what is told

    public int count(int what) {
        switch (what) {
            case 0: return talkCount;
            case 1: return page.size;
            case 2: return row.helperCount;
            case 3: return log.events;
            case 4: return queueJoins;
            case 5: return adaptings;
            case 6: return plans;
            case 7: return row.size;
            default: return OUTSIDE;
        }
    }

    public long digest() {
        long h = 211;
        h = mixed(h, page.letters, page.size);
        for (int t = 0; t < talkCount; t++) {
            h = talks[t].mixedInto(h);
        }
        for (int s = 0; s < row.helperCount; s++) {
            h = mixed(h, row.helpers[s].traits, TRAITS);
        }
        h = mixed(h, row.levels, FACTS);
        h = mixed(h, row.places, row.size);
        h = 31 * h + log.events;
        h = 31 * h + log.last().size();
        h = 31 * h + queueJoins;
        h = 31 * h + adaptings;
        return 31 * h + plans;
    }

    // ---- what the calls share

    private Talk talkNumbered(int t) {
        return t < 0 || t >= talkCount ? null : talks[t];
    }

    /** Why adapters() and adapter() are refused; 0: they are not. */
    private int adaptingRefusal(int a, int b, int m) {
        Talk one = talkNumbered(a);
        if (one == null || talkNumbered(b) == null) {
            return UNKNOWN;
        }
        if (Integer.bitCount(one.messages()) > MOST_ADAPTED || !isMessage(m)) {
            return OUTSIDE;
        }
        return adaptings >= MOST_DONE ? STATE : 0;
    }

    private void adapt(int a, int b) {
        adaptings++;
        adapting.find(talks[a], talks[b]);
    }

    /** Why a call about the end of the row is refused; 0: the row goes, and its end stands. */
    private int goingRefusal(int facts) {
        if (!isFacts(facts)) {
            return OUTSIDE;
        }
        return row.firstStop(facts) == NONE ? 0 : STATE;
    }

    private static boolean isSign(int sign) {
        return sign == HEARD || sign == SAID;
    }

    private static boolean isMessage(int m) {
        return m >= 0 && m < MESSAGES;
    }

    private static boolean isFacts(int facts) {
        return facts >= 0 && facts <= ALL_FACTS;
    }

    private static boolean isFact(int f) {
        return f >= 0 && f < FACTS;
    }

    private static boolean isTries(int r) {
        return r >= 1 && r <= MOST_TRIES;
    }

    private static boolean isPart(int part) {
        return part == 0 || part == 1;
    }

    private static boolean hasBit(int set, int bit) {
        return (set >> bit & 1) != 0;
    }

    private static long power(long base, int exponent) {
        long product = 1;
        for (int i = 0; i < exponent; i++) {
            product *= base;
        }
        return product;
    }

    private static long lowest(long above, long below, int part) {
        long divisor = above;
        long rest = below;
        // the smaller of two numbers halves at least at every second turn, so longs need fewer than 200
        for (int turn = 0; turn < 200 && rest != 0; turn++) {
            long left = divisor % rest;
            divisor = rest;
            rest = left;
        }
        long number = part == 0 ? above : below;
        return divisor == 0 ? number : number / divisor;
    }

    private static long mixed(long h, int[] numbers, int size) {
        for (int i = 0; i < size && i < numbers.length; i++) {
            h = 31 * h + numbers[i];
        }
        return h;
    }

    /** The page, or an open bracket on it, with the talk that grows there. */
    private static final class Level {
        private int bracket;
        private boolean barred;
        private boolean begun;
        // steps that may be first and last in the growing talk, as bits, and whether it may be without any
        private long firsts;
        private long lasts;
        private boolean idle;
        // the same of all talks of this bracket that a bar has ended
        private long branchFirsts;
        private long branchLasts;
        private boolean branchIdle;

        void open(int letter) {
            bracket = letter;
            barred = false;
            branchFirsts = 0;
            branchLasts = 0;
            branchIdle = false;
            startTalk();
        }

        void startTalk() {
            begun = false;
            firsts = 0;
            lasts = 0;
            idle = true;
        }

        void endBranch() {
            branchFirsts |= firsts;
            branchLasts |= lasts;
            branchIdle |= idle;
            startTalk();
        }

        boolean mayBar() {
            return bracket == '(' && begun;
        }

        boolean mayClose(int letter) {
            return begun && (letter == ')' ? bracket == '(' && barred : bracket == '{');
        }
    }

    /** The page, and what was read of it: its steps, and which may come behind which. */
    private static final class Page {
        private final int[] letters = new int[MOST_LETTERS];
        private int size;
        private final Level[] levels = new Level[MOST_LETTERS + 1];
        private int depth;
        private int steps;
        // of each step, from 1: its sign and message, and the steps that may come right behind it
        private final int[] kinds = new int[MOST_READ + 1];
        private final long[] follows = new long[MOST_READ + 1];
        // a sign that waits for its message, or NONE
        private int sign = NONE;

        Page() {
            for (int i = 0; i < levels.length; i++) {
                levels[i] = new Level();
            }
        }

        /** How many letters w tells; NONE: it tells them wrong. */
        static int lettersIn(long w) {
            int found = 0;
            boolean over = false;
            for (int i = 0; i < 8; i++) {
                int code = (int) (w >>> 8 * i) & 255;
                if (code > GREATEST_LETTER || over && code != 0) {
                    return NONE;
                }
                over = code == 0;
                found += over ? 0 : 1;
            }
            return found;
        }

        void write(long w, int more) {
            for (int i = 0; i < more && size < MOST_LETTERS; i++) {
                letters[size] = (int) (w >>> 8 * i) & 255;
                size++;
            }
        }

        /** Reads as far as some talk may begin so: how many letters. */
        int read() {
            depth = 0;
            steps = 0;
            sign = NONE;
            levels[0].open(0);
            for (int i = 0; i < size; i++) {
                if (!accepts(letters[i])) {
                    return i;
                }
            }
            return size;
        }

        boolean isWhole() {
            return sign == NONE && depth == 0 && levels[0].begun;
        }

        private boolean accepts(int letter) {
            if (sign != NONE) {
                return acceptsMessage(letter - 'a');
            }
            switch (letter) {
                case '?':
                    sign = HEARD;
                    return true;
                case '!':
                    sign = SAID;
                    return true;
                case '0':
                    append(0, 0, true);
                    return true;
                case '(':
                case '{':
                    return opens(letter);
                case '|':
                    return bars();
                case ')':
                case '}':
                    return closes(letter);
                default:
                    return false;
            }
        }

        private boolean acceptsMessage(int m) {
            if (!isMessage(m) || steps >= MOST_READ) {
                return false;
            }
            steps++;
            kinds[steps] = sign * MESSAGES + m;
            follows[steps] = 0;
            sign = NONE;
            append(1L << steps, 1L << steps, false);
            return true;
        }

        private boolean opens(int letter) {
            if (depth >= MOST_LETTERS) {
                return false;
            }
            depth++;
            levels[depth].open(letter);
            return true;
        }

        private boolean bars() {
            Level top = levels[depth];
            if (!top.mayBar()) {
                return false;
            }
            top.barred = true;
            top.endBranch();
            return true;
        }

        private boolean closes(int letter) {
            Level top = levels[depth];
            if (depth == 0 || !top.mayClose(letter)) {
                return false;
            }
            depth--;
            if (letter == '}') {
                link(top.lasts, top.firsts);
                append(top.firsts, top.lasts, true);
            } else {
                top.endBranch();
                append(top.branchFirsts, top.branchLasts, top.branchIdle);
            }
            return true;
        }

        private void append(long firsts, long lasts, boolean idle) {
            Level top = levels[depth];
            link(top.lasts, firsts);
            if (top.idle) {
                top.firsts |= firsts;
            }
            top.lasts = idle ? top.lasts | lasts : lasts;
            top.idle &= idle;
            top.begun = true;
        }

        private void link(long lasts, long firsts) {
            for (int s = 1; s <= steps; s++) {
                if ((lasts >> s & 1) != 0) {
                    follows[s] |= firsts;
                }
            }
        }

        long nextSteps(int state) {
            return state == 0 ? levels[0].firsts : follows[state];
        }

        boolean mayStop(int state) {
            return state == 0 ? levels[0].idle : (levels[0].lasts >> state & 1) != 0;
        }

        boolean isTwofold() {
            for (int state = 0; state <= steps; state++) {
                int seen = 0;
                for (int s = 1; s <= steps; s++) {
                    if ((nextSteps(state) >> s & 1) != 0) {
                        if (hasBit(seen, kinds[s])) {
                            return true;
                        }
                        seen |= 1 << kinds[s];
                    }
                }
            }
            return false;
        }
    }

    /** A talk as a machine: never twofold, so a state, a sign and a message tell the next state. */
    private static final class Talk {
        private final int steps;
        private int endStates;
        private final int[] nextStates;
        private final int[] hears;
        private final int[] says;

        Talk(Page page) {
            steps = Math.max(0, Math.min(MOST_STEPS, page.steps));
            nextStates = new int[(steps + 1) * KINDS];
            hears = new int[steps + 1];
            says = new int[steps + 1];
            Arrays.fill(nextStates, NONE);
            for (int state = 0; state <= steps; state++) {
                endStates |= page.mayStop(state) ? 1 << state : 0;
                long next = page.nextSteps(state);
                for (int s = 1; s <= steps; s++) {
                    if ((next >> s & 1) != 0) {
                        addStep(state, page.kinds[s], s);
                    }
                }
            }
        }

        private void addStep(int state, int kind, int step) {
            nextStates[state * KINDS + kind] = step;
            if (kind < MESSAGES) {
                hears[state] |= 1 << kind;
            } else {
                says[state] |= 1 << kind - MESSAGES;
            }
        }

        boolean has(int state) {
            return state >= 0 && state <= steps;
        }

        boolean mayEnd(int state) {
            return (endStates >> state & 1) != 0;
        }

        int behind(int state, int sign, int m) {
            return nextStates[state * KINDS + sign * MESSAGES + m];
        }

        int messagesOf(int sign) {
            int found = 0;
            for (int state = 0; state <= steps; state++) {
                found |= sign == HEARD ? hears[state] : says[state];
            }
            return found;
        }

        int messages() {
            return messagesOf(HEARD) | messagesOf(SAID);
        }

        long mixedInto(long h) {
            h = 31 * h + steps;
            for (int state = 0; state <= steps; state++) {
                h = 31 * h + (mayEnd(state) ? 1 : 0);
                for (int kind = 0; kind < KINDS; kind++) {
                    h = 31 * h + nextStates[state * KINDS + kind];
                }
            }
            return h;
        }
    }

    /**
     * Two talks walked whole. Places are found nearest first, and acts are tried in their order, so
     * the first faulty place found is the fault, and the way it was found is the row to it.
     */
    private static final class Walk {
        // a place: states of a and b in 5 bits each, then the queues to b and to a, two fours of bits each
        private final int[] places = new int[MOST_WALKED];
        private final int[] parents = new int[MOST_WALKED];
        private final int[] acts = new int[MOST_WALKED];
        private int size;
        // one more than where a place stands in places; 0: the slot is free
        private final int[] slots = new int[SLOTS];
        private boolean spent;
        private final int[] way = new int[MOST_WALKED];
        private int wayLength;
        private Talk a;
        private Talk b;
        private int room;

        int through(Talk one, Talk other, int k) {
            a = one;
            b = other;
            room = k;
            size = 0;
            wayLength = 0;
            spent = false;
            Arrays.fill(slots, 0);
            reach(0, NONE, NONE);
            int fault = GOES_WELL;
            for (int at = 0; at < size && at < MOST_WALKED && !spent; at++) {
                int found = room == 0 ? passFrom(at) : actFrom(at);
                if (fault == GOES_WELL && found != GOES_WELL) {
                    fault = found;
                    keepWay(at);
                }
            }
            if (spent) {
                wayLength = 0;
                return SPENT;
            }
            return fault;
        }

        int stepToFault(int i) {
            return i < 0 || i >= wayLength ? NONE : way[i];
        }

        private int passFrom(int at) {
            int i = places[at] & 31;
            int j = places[at] >> 5 & 31;
            int fromA = a.says[i] & b.hears[j];
            int fromB = b.says[j] & a.hears[i];
            for (int m = 0; m < MESSAGES; m++) {
                if (hasBit(fromA, m)) {
                    reach(place(a.behind(i, SAID, m), b.behind(j, HEARD, m), 0, 0), at, 2 * m);
                }
                if (hasBit(fromB, m)) {
                    reach(place(a.behind(i, HEARD, m), b.behind(j, SAID, m), 0, 0), at, 2 * m + 1);
                }
            }
            if (fromA != a.says[i] || fromB != b.says[j]) {
                return UNHEARD;
            }
            boolean over = a.mayEnd(i) && b.mayEnd(j);
            return (fromA | fromB) == 0 && !over ? STUCK : GOES_WELL;
        }

        private int actFrom(int at) {
            int i = places[at] & 31;
            int j = places[at] >> 5 & 31;
            int toB = places[at] >> 10 & 255;
            int toA = places[at] >> 18 & 255;
            int saidByA = hasRoom(toB) ? a.says[i] : 0;
            int saidByB = hasRoom(toA) ? b.says[j] : 0;
            int heardByA = a.hears[i] & front(toA);
            int heardByB = b.hears[j] & front(toB);
            for (int m = 0; m < MESSAGES; m++) {
                if (hasBit(saidByA, m)) {
                    reach(place(a.behind(i, SAID, m), j, longer(toB, m), toA), at, A_SAYS + m);
                }
            }
            for (int m = 0; m < MESSAGES; m++) {
                if (hasBit(saidByB, m)) {
                    reach(place(i, b.behind(j, SAID, m), toB, longer(toA, m)), at, B_SAYS + m);
                }
            }
            if (heardByA != 0) {
                reach(place(a.behind(i, HEARD, (toA & 15) - 1), j, toB, toA >> 4), at, A_HEARS);
            }
            if (heardByB != 0) {
                reach(place(i, b.behind(j, HEARD, (toB & 15) - 1), toB >> 4, toA), at, B_HEARS);
            }
            boolean over = a.mayEnd(i) && b.mayEnd(j) && (toA | toB) == 0;
            return (saidByA | saidByB | heardByA | heardByB) == 0 && !over ? STUCK : GOES_WELL;
        }

        private boolean hasRoom(int queue) {
            return room == 1 ? queue == 0 : queue < 16;
        }

        private static int longer(int queue, int m) {
            return queue == 0 ? m + 1 : queue | m + 1 << 4;
        }

        /** The message that is to be heard first, as a bit; 0: there is none. */
        private static int front(int queue) {
            return 1 << (queue & 15) >> 1;
        }

        private static int place(int i, int j, int toB, int toA) {
            return i | j << 5 | toB << 10 | toA << 18;
        }

        private void reach(int place, int parent, int act) {
            int slot = place * 0x9E3779B1 >>> 32 - SLOT_BITS;
            for (int turn = 0; turn < SLOTS && slots[slot] != 0; turn++) {
                if (places[slots[slot] - 1] == place) {
                    return;
                }
                slot = slot + 1 & SLOTS - 1;
            }
            if (size >= MOST_WALKED) {
                spent = true;
                return;
            }
            places[size] = place;
            parents[size] = parent;
            acts[size] = act;
            size++;
            slots[slot] = size;
        }

        private void keepWay(int fault) {
            wayLength = 0;
            for (int at = fault; at > 0 && wayLength < MOST_WALKED; at = parents[at]) {
                way[wayLength] = acts[at];
                wayLength++;
            }
            for (int i = 0; i < wayLength / 2; i++) {
                int act = way[i];
                way[i] = way[wayLength - 1 - i];
                way[wayLength - 1 - i] = act;
            }
        }
    }

    /** Which states of x are fit for which of y: all are taken to be, until one is seen not to be. */
    private static final class Fitting {
        // of each state of x the states of y it is fit for, as bits
        private final int[] fits = new int[MOST_STATES];
        private Talk x;
        private Talk y;

        void compare(Talk one, Talk other) {
            x = one;
            y = other;
            Arrays.fill(fits, (1 << y.steps + 1) - 1);
            boolean changed = true;
            // each turn but the last one drops a pair
            for (int turn = 0; turn <= MOST_PAIRS && changed; turn++) {
                changed = dropsSome();
            }
        }

        boolean holds(int p, int q) {
            return hasBit(fits[p], q);
        }

        private boolean dropsSome() {
            boolean dropped = false;
            for (int p = 0; p <= x.steps; p++) {
                for (int q = 0; q <= y.steps; q++) {
                    if (holds(p, q) && !(fitsNow(p, q) && fitsLater(p, q))) {
                        fits[p] &= ~(1 << q);
                        dropped = true;
                    }
                }
            }
            return dropped;
        }

        private boolean fitsNow(int p, int q) {
            if ((y.hears[q] & ~x.hears[p]) != 0 || (x.says[p] & ~y.says[q]) != 0) {
                return false;
            }
            if (x.says[p] == 0 && y.says[q] != 0) {
                return false;
            }
            return x.mayEnd(p) == y.mayEnd(q);
        }

        /** Only of states that fit now, so that each message heard or said leads on in both talks. */
        private boolean fitsLater(int p, int q) {
            for (int m = 0; m < MESSAGES; m++) {
                if (hasBit(y.hears[q], m) && !holds(x.behind(p, HEARD, m), y.behind(q, HEARD, m))) {
                    return false;
                }
                if (hasBit(x.says[p], m) && !holds(x.behind(p, SAID, m), y.behind(q, SAID, m))) {
                    return false;
                }
            }
            return true;
        }
    }

    /** The adapters of a to b, found by giving a's messages their places one behind the other. */
    private static final class Adapting {
        // what a's messages become, the least one's in the lowest four bits
        private final int[] found = new int[MOST_ADAPTERS];
        private int count;
        private Talk a;
        private Talk b;
        private final int[] messages = new int[MOST_ADAPTED];
        private int width;
        // what a message of a becomes, and which message becomes one of b; NONE while it is open
        private final int[] images = new int[MESSAGES];
        private final int[] origins = new int[MESSAGES];
        private final int[] reached = new int[MOST_STATES];
        private final int[] waiting = new int[MOST_PAIRS];
        private int waitingCount;

        void find(Talk one, Talk other) {
            // talks never change, so what was found for the same two stands
            if (one == a && other == b) {
                return;
            }
            a = one;
            b = other;
            count = 0;
            width = 0;
            Arrays.fill(images, NONE);
            Arrays.fill(origins, NONE);
            int used = a.messages();
            for (int m = 0; m < MESSAGES && width < MOST_ADAPTED; m++) {
                if (hasBit(used, m)) {
                    messages[width] = m;
                    width++;
                }
            }
            assign(0);
        }

        int becomes(int i, int m) {
            if (i < 0 || i >= count) {
                return NONE;
            }
            for (int k = 0; k < width; k++) {
                if (messages[k] == m) {
                    return found[i] >> 4 * k & 15;
                }
            }
            return NONE;
        }

        private void assign(int k) {
            if (!agree()) {
                return;
            }
            if (k >= width) {
                keepFound();
                return;
            }
            int m = messages[k];
            for (int n = 0; n < MESSAGES; n++) {
                if (origins[n] == NONE) {
                    images[m] = n;
                    origins[n] = m;
                    assign(k + 1);
                    images[m] = NONE;
                    origins[n] = NONE;
                }
            }
        }

        private void keepFound() {
            int code = 0;
            for (int k = 0; k < width; k++) {
                code |= images[messages[k]] << 4 * k;
            }
            if (count < MOST_ADAPTERS) {
                found[count] = code;
                count++;
            }
        }

        /** Whether no fault is certain, whatever the open messages become; with none open: whether there is none. */
        private boolean agree() {
            Arrays.fill(reached, 0);
            waitingCount = 0;
            reach(0, 0);
            for (int turn = 0; turn < MOST_PAIRS && waitingCount > 0; turn++) {
                waitingCount--;
                int i = waiting[waitingCount] & 31;
                int j = waiting[waitingCount] >> 5;
                if (!agreeAt(i, j)) {
                    return false;
                }
                passFrom(i, j);
            }
            return true;
        }

        private boolean agreeAt(int i, int j) {
            int said = 0;
            int heard = 0;
            int openSaid = 0;
            int openHeard = 0;
            int taken = 0;
            for (int k = 0; k < width; k++) {
                int m = messages[k];
                int says = a.says[i] >> m & 1;
                int hears = a.hears[i] >> m & 1;
                if (images[m] == NONE) {
                    openSaid += says;
                    openHeard += hears;
                } else {
                    said |= says << images[m];
                    heard |= hears << images[m];
                    taken |= 1 << images[m];
                }
            }
            if ((said & ~b.hears[j]) != 0 || (b.says[j] & taken & ~heard) != 0) {
                return false;
            }
            // unlike messages need as many that are not taken yet
            if (openSaid > Integer.bitCount(b.hears[j] & ~taken) || Integer.bitCount(b.says[j] & ~taken) > openHeard) {
                return false;
            }
            return (a.says[i] | b.says[j]) != 0 || a.mayEnd(i) && b.mayEnd(j);
        }

        private void passFrom(int i, int j) {
            for (int k = 0; k < width; k++) {
                int m = messages[k];
                int n = images[m];
                if (n != NONE && hasBit(a.says[i], m) && hasBit(b.hears[j], n)) {
                    reach(a.behind(i, SAID, m), b.behind(j, HEARD, n));
                }
                if (n != NONE && hasBit(a.hears[i], m) && hasBit(b.says[j], n)) {
                    reach(a.behind(i, HEARD, m), b.behind(j, SAID, n));
                }
            }
        }

        private void reach(int i, int j) {
            if (!hasBit(reached[i], j) && waitingCount < MOST_PAIRS) {
                reached[i] |= 1 << j;
                waiting[waitingCount] = i | j << 5;
                waitingCount++;
            }
        }
    }

    /** A helper: what about() tells of it, by its number there. */
    private static final class Helper {
        private final int[] traits = new int[TRAITS];

        Helper(int needs, int gives, int takes) {
            traits[QUOTA] = GREATEST_TRAIT[QUOTA];
            traits[TRUST] = GREATEST_TRAIT[TRUST];
            traits[UNDO] = NONE;
            traits[NEEDS] = needs;
            traits[GIVES] = gives;
            traits[TAKES] = takes;
        }

        /** Chances not to fail r times, of 10 to the r. */
        long chancesOfGoing(int r) {
            return power(10, r) - power(traits[FAILS], r);
        }

        /** Prices that are paid for up to r tries in the mean, times 10 to the r. */
        long meanOfTries(int r) {
            long sum = 0;
            for (int k = 0; k < r; k++) {
                sum += power(traits[FAILS], k) * power(10, r - k);
            }
            return traits[PRICE] * sum;
        }
    }

    /** What is held, and how tainted, at some place of a row that goes. */
    private static final class Going {
        private int facts;
        private final int[] taints = new int[FACTS];
        private final int[] times = new int[MOST_HELPERS];

        void startWith(int held, int[] levels) {
            facts = held;
            System.arraycopy(levels, 0, taints, 0, FACTS);
            Arrays.fill(times, 0);
        }

        void become(Going other) {
            facts = other.facts;
            System.arraycopy(other.taints, 0, taints, 0, FACTS);
            System.arraycopy(other.times, 0, times, 0, MOST_HELPERS);
        }

        boolean isTrusted(Helper helper) {
            int needs = helper.traits[NEEDS];
            return (needs & ~facts) == 0 && greatestTaint(needs) <= helper.traits[TRUST];
        }

        boolean may(Helper helper, int s) {
            return times[s] < helper.traits[QUOTA] && isTrusted(helper);
        }

        void go(Helper helper, int s, int[] levels) {
            int taint = greatestTaint(helper.traits[NEEDS]);
            int gives = helper.traits[GIVES];
            facts = facts & ~helper.traits[TAKES] | gives;
            for (int f = 0; f < FACTS; f++) {
                if (hasBit(gives, f)) {
                    taints[f] = Math.max(levels[f], taint);
                }
            }
            times[s]++;
        }

        private int greatestTaint(int set) {
            int greatest = 0;
            for (int f = 0; f < FACTS; f++) {
                if (hasBit(set, f)) {
                    greatest = Math.max(greatest, taints[f]);
                }
            }
            return greatest;
        }
    }

    /** The helpers, the levels of facts, and the row. */
    private static final class Row {
        private final Helper[] helpers = new Helper[MOST_HELPERS];
        private int helperCount;
        private final int[] levels = new int[FACTS];
        private final int[] places = new int[LONGEST_ROW];
        private int size;
        // what is held behind the first so many places, of the row or of the one that is tried
        private final Going[] goings = new Going[LONGEST_ROW + 1];
        private final Going back = new Going();
        private final int[] tried = new int[LONGEST_ROW];
        private final int[] best = new int[LONGEST_ROW];
        private int bestSize;
        private int bestCost;
        private int wished;
        private int longest;

        Row() {
            for (int i = 0; i < goings.length; i++) {
                goings[i] = new Going();
            }
        }

        int addHelper(Helper helper) {
            if (helperCount < MOST_HELPERS) {
                helpers[helperCount] = helper;
                helperCount++;
            }
            return helperCount - 1;
        }

        Helper helperNumbered(int s) {
            return s < 0 || s >= helperCount ? null : helpers[s];
        }

        Helper helperAt(int i) {
            return helpers[places[i]];
        }

        Going end() {
            return goings[size];
        }

        int sumOfPrices() {
            int sum = 0;
            for (int i = 0; i < size; i++) {
                sum += helperAt(i).traits[PRICE];
            }
            return sum;
        }

        /** Goes along the row: the place at which it stops; NONE: what is held stands in goings. */
        int firstStop(int facts) {
            goings[0].startWith(facts, levels);
            for (int i = 0; i < size; i++) {
                if (!goings[i].may(helperAt(i), places[i])) {
                    return i;
                }
                goOn(i, places[i]);
            }
            return NONE;
        }

        private void goOn(int i, int s) {
            goings[i + 1].become(goings[i]);
            goings[i + 1].go(helpers[s], s, levels);
        }

        int becomeBest(int facts, int wish, int most) {
            wished = wish;
            longest = most;
            bestSize = NONE;
            goings[0].startWith(facts, levels);
            tryFrom(0, 0);
            if (bestSize == NONE) {
                return NONE;
            }
            System.arraycopy(best, 0, places, 0, bestSize);
            size = bestSize;
            return bestCost;
        }

        /** Rows of one length are met in their order, so a later one of like cost is never better. */
        private void tryFrom(int length, int cost) {
            if (bestSize != NONE && (cost > bestCost || cost == bestCost && length >= bestSize)) {
                return;
            }
            if ((wished & ~goings[length].facts) == 0) {
                System.arraycopy(tried, 0, best, 0, length);
                bestSize = length;
                bestCost = cost;
                return;
            }
            for (int s = 0; s < helperCount && length < longest; s++) {
                if (goings[length].may(helpers[s], s)) {
                    tried[length] = s;
                    goOn(length, s);
                    tryFrom(length + 1, cost + helpers[s].traits[PRICE]);
                }
            }
        }

        /** Of a row that went from these facts: behind how many places undoing holds, as bits. */
        int undoings(int facts) {
            int found = 0;
            for (int k = 0; k <= size; k++) {
                found |= isUndone(facts, k) ? 1 << k : 0;
            }
            return found;
        }

        private boolean isUndone(int facts, int k) {
            back.become(goings[k]);
            for (int i = k - 1; i >= 0; i--) {
                int s = helperAt(i).traits[UNDO];
                Helper undo = helperNumbered(s);
                if (undo == null || !back.isTrusted(undo)) {
                    return false;
                }
                back.go(undo, s, levels);
            }
            return back.facts == facts;
        }
    }

    /** A set of worlds: bit w of the words, all in a row, tells whether world w is one. */
    private static final class Worlds {
        private final long[] words = new long[WORDS];

        void become(Worlds other) {
            System.arraycopy(other.words, 0, words, 0, WORDS);
        }

        void becomeOnly(int world) {
            Arrays.fill(words, 0L);
            words[world >> WORD_FACTS & WORDS - 1] = 1L << (world & WORDS - 1);
        }

        void add(Worlds other) {
            for (int k = 0; k < WORDS; k++) {
                words[k] |= other.words[k];
            }
        }

        /** Of word k the bits of worlds that hold a fact. */
        private static long holders(int k, int f) {
            if (f < WORD_FACTS) {
                return WITH_FACT[f];
            }
            return hasBit(k, f - WORD_FACTS) ? -1L : 0L;
        }

        void keep(int f, boolean is) {
            for (int k = 0; k < WORDS; k++) {
                words[k] &= is ? holders(k, f) : ~holders(k, f);
            }
        }

        void change(Helper helper) {
            for (int f = 0; f < FACTS; f++) {
                if (hasBit(helper.traits[NEEDS], f)) {
                    keep(f, true);
                }
            }
            for (int f = 0; f < FACTS; f++) {
                if (hasBit(helper.traits[GIVES], f)) {
                    move(f, true);
                } else if (hasBit(helper.traits[TAKES], f)) {
                    move(f, false);
                }
            }
        }

        /** All worlds become such that hold a fact, or such that lack it. */
        private void move(int f, boolean is) {
            for (int k = 0; k < WORDS; k++) {
                if (f < WORD_FACTS) {
                    words[k] = movedWithin(words[k], f, is);
                } else if (hasBit(k, f - WORD_FACTS) == is) {
                    int from = k ^ 1 << f - WORD_FACTS;
                    words[k] |= words[from];
                    words[from] = 0;
                }
            }
        }

        private static long movedWithin(long word, int f, boolean is) {
            long with = word & WITH_FACT[f];
            long without = word & ~WITH_FACT[f];
            return is ? with | without << (1 << f) : without | with >>> (1 << f);
        }

        int size() {
            int sum = 0;
            for (int k = 0; k < WORDS; k++) {
                sum += Long.bitCount(words[k]);
            }
            return sum;
        }

        int heldInSome() {
            int found = 0;
            for (int f = 0; f < FACTS; f++) {
                for (int k = 0; k < WORDS; k++) {
                    found |= (words[k] & holders(k, f)) != 0 ? 1 << f : 0;
                }
            }
            return found;
        }

        int heldInAll() {
            int found = ALL_FACTS;
            for (int f = 0; f < FACTS; f++) {
                for (int k = 0; k < WORDS; k++) {
                    found &= (words[k] & ~holders(k, f)) != 0 ? ~(1 << f) : ALL_FACTS;
                }
            }
            return found;
        }

        /** The i-th world by number; NONE: there is none. */
        int numbered(int i) {
            int left = i;
            for (int k = 0; k < WORDS && left >= 0; k++) {
                int here = Long.bitCount(words[k]);
                if (left < here) {
                    return k << WORD_FACTS | bitNumbered(words[k], left);
                }
                left -= here;
            }
            return NONE;
        }

        private static int bitNumbered(long word, int i) {
            long rest = word;
            for (int dropped = 0; dropped < i; dropped++) {
                rest &= rest - 1;
            }
            return Long.bitCount((rest & -rest) - 1);
        }
    }

    /** The worlds at first and behind each event; the events themselves are asked for nowhere. */
    private static final class Log {
        private final Worlds[] behind = new Worlds[MOST_EVENTS + 1];
        private int events;
        private final Worlds changed = new Worlds();

        Log() {
            for (int t = 0; t < behind.length; t++) {
                behind[t] = new Worlds();
            }
        }

        void startWith(int facts) {
            events = 0;
            behind[0].becomeOnly(facts);
        }

        Worlds last() {
            return behind[events];
        }

        /** A call that failed changes no world. */
        void addCall(Helper helper, int how) {
            Worlds now = addEvent();
            if (how == DONE) {
                now.change(helper);
            } else if (how == LOST) {
                changed.become(now);
                changed.change(helper);
                now.add(changed);
            }
        }

        void addSight(int f, boolean is) {
            addEvent().keep(f, is);
        }

        private Worlds addEvent() {
            if (events < MOST_EVENTS) {
                behind[events + 1].become(behind[events]);
                events++;
            }
            return behind[events];
        }
    }
}
