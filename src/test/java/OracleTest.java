import java.util.ArrayList;
import java.util.List;
import java.util.Random;

/** Runs of calls drawn from fixed seeds, of ordinary, edge and wild arguments, against the Oracle. */
final class OracleTest {
    private static final int[] WILD = {-1, -2, 0, 1, 2, 3, 4, 5, 7, 8, 9, 11, 12, 24, 25, 30, 31, 50, 51, 126,
        4095, 4096, Integer.MIN_VALUE, Integer.MAX_VALUE, -101, 1 << 16, 625, -4096};
    // some draws make a dozen calls, and behind the 512th nothing is promised
    private static final int CALLS = 490;

    private final Random random;
    private final HelperWeave x = new HelperWeave();
    private final Oracle y = new Oracle();
    private final List<String> texts = new ArrayList<>();
    private final String run;
    private int calls = 0;
    private String toWrite = "";

    private OracleTest(long seed, String theme) {
        random = new Random(seed);
        run = theme + " " + seed;
    }

    private boolean oneIn(int n) {
        return random.nextInt(n) == 0;
    }

    private int pick(int below) {
        return oneIn(25) ? WILD[random.nextInt(WILD.length)] : random.nextInt(Math.max(1, below));
    }

    private int pickTalk() {
        return pick(oneIn(15) ? 7 : y.count(0));
    }

    private int pickState(int t) {
        return pick(Math.max(0, y.steps(t)) + 1);
    }

    private void due(String call, long got, long want) {
        Check.due("run " + run + ", call " + calls + ": " + call, got, want);
        calls++;
    }

    // ---- texts

    private String piece(int depth, int messages) {
        int kind = random.nextInt(10);
        if (kind == 0) {
            return "0";
        }
        if (depth == 0 || kind < 6) {
            return (oneIn(2) ? "?" : "!") + (char) ('a' + random.nextInt(messages));
        }
        if (kind < 8) {
            StringBuilder text = new StringBuilder("(").append(row(depth - 1, messages));
            for (int i = 0; i <= random.nextInt(3); i++) {
                text.append("|").append(row(depth - 1, messages));
            }
            return text.append(")").toString();
        }
        return "{" + row(depth - 1, messages) + "}";
    }

    private String row(int depth, int messages) {
        StringBuilder text = new StringBuilder();
        for (int i = 0; i <= random.nextInt(3); i++) {
            text.append(piece(depth, messages));
        }
        return text.toString();
    }

    /** A talk that is seldom twofold: branches begin with unlike steps, and loops are told apart. */
    private String richRow(int depth, int length) {
        StringBuilder text = new StringBuilder();
        for (int i = 0; i < length; i++) {
            int kind = depth == 0 ? 0 : random.nextInt(4);
            if (kind < 2) {
                text.append(step(random.nextInt(16)));
            } else {
                int first = random.nextInt(16);
                int branches = 2 + random.nextInt(3);
                text.append(kind == 3 ? "{(" : "(");
                for (int k = 0; k < branches; k++) {
                    text.append(k > 0 ? "|" : "").append(step((first + 3 * k) % 16));
                    text.append(oneIn(2) ? richRow(depth - 1, 1) : "");
                }
                text.append(kind == 3 ? ")}" : ")");
            }
        }
        return text.toString();
    }

    private static String step(int kind) {
        return (kind < 8 ? "?" : "!") + (char) ('a' + kind % 8);
    }

    private static String dual(String text) {
        return text.replace('?', '#').replace('!', '?').replace('#', '!');
    }

    private String renamed(String text) {
        int turn = 1 + random.nextInt(7);
        StringBuilder other = new StringBuilder();
        for (char letter : text.toCharArray()) {
            other.append(letter >= 'a' && letter <= 'h' ? (char) ('a' + (letter - 'a' + turn) % 8) : letter);
        }
        return other.toString();
    }

    private String spoiled(String text) {
        StringBuilder other = new StringBuilder(text);
        int at = random.nextInt(text.length() + 1);
        if (oneIn(2) && at < text.length()) {
            other.deleteCharAt(at);
        } else {
            other.insert(at, "?!abch(|){}0i x~".charAt(random.nextInt(16)));
        }
        return other.toString();
    }

    private String text() {
        int kind = random.nextInt(12);
        if (kind < 5 && !texts.isEmpty()) {
            String like = texts.get(random.nextInt(texts.size()));
            String other = oneIn(4) ? like : dual(like);
            other = oneIn(3) ? renamed(other) : other;
            return oneIn(3) ? spoiled(other) : other;
        }
        if (kind < 8) {
            return richRow(2, 1 + random.nextInt(4));
        }
        if (kind == 11 && oneIn(3)) {
            return deepText();
        }
        return row(3, oneIn(4) ? 8 : 1 + random.nextInt(4));
    }

    private String deepText() {
        int depth = random.nextInt(40);
        String open = oneIn(2) ? "{" : "(0|";
        String close = open.equals("{") ? "}" : ")";
        return open.repeat(depth) + "?a" + close.repeat(oneIn(3) ? depth - depth / 3 : depth);
    }

    private void letters(long w) {
        due("letters(" + w + ")", x.letters(w), y.letters(w));
    }

    private void writeMore() {
        if (toWrite.isEmpty()) {
            if (!oneIn(6)) {
                due("blank()", x.blank(), y.blank());
            }
            toWrite = text();
            if (toWrite.length() <= 80) {
                texts.add(toWrite);
            }
            toWrite = toWrite.substring(0, Math.min(80, toWrite.length()));
        }
        long w = Check.packed(toWrite, 0);
        if (oneIn(30)) {
            w = oneIn(2) ? random.nextLong() : w ^ 1L << random.nextInt(64);
        }
        letters(w);
        toWrite = toWrite.substring(Math.min(8, toWrite.length()));
        if (toWrite.isEmpty()) {
            due("good()", x.good(), y.good());
            int got = x.talk();
            due("talk()", got, y.talk());
            if (got < 0 && oneIn(2)) {
                due("blank()", x.blank(), y.blank());
            }
        }
    }

    private void talkCall() {
        int kind = random.nextInt(8);
        int t = pickTalk();
        int state = pickState(t);
        int sign = pick(2);
        int m = pick(8);
        if (kind < 4 && y.count(0) < 6 || kind == 0) {
            writeMore();
        } else if (kind < 3) {
            due("good()", x.good(), y.good());
        } else if (kind == 4) {
            due("steps(" + t + ")", x.steps(t), y.steps(t));
        } else if (kind == 5) {
            due("next(" + t + ", " + state + ", " + sign + ", " + m + ")", x.next(t, state, sign, m),
                y.next(t, state, sign, m));
        } else if (kind == 6) {
            due("ends(" + t + ", " + state + ")", x.ends(t, state), y.ends(t, state));
        } else {
            due("uses(" + t + ", " + sign + ")", x.uses(t, sign), y.uses(t, sign));
        }
    }

    private void joinCall() {
        int a = pickTalk();
        int b = pickTalk();
        int k = pick(3);
        int q = oneIn(2) ? pickState(b) : pick(8);
        switch (random.nextInt(6)) {
            case 0:
            case 1:
                due("join(" + a + ", " + b + ", " + k + ")", x.join(a, b, k), y.join(a, b, k));
                due("walked()", x.walked(), y.walked());
                for (int i = -1; y.trace(i) >= 0 || i < 1; i++) {
                    due("trace(" + i + ")", x.trace(i), y.trace(i));
                }
                due("trace(4000)", x.trace(4000), y.trace(4000));
                break;
            case 2:
                due("fit(" + a + ", " + b + ")", x.fit(a, b), y.fit(a, b));
                break;
            case 3:
                due("swap(" + a + ", " + b + ", " + q + ")", x.swap(a, b, q), y.swap(a, b, q));
                break;
            case 4:
                due("adapters(" + a + ", " + b + ")", x.adapters(a, b), y.adapters(a, b));
                break;
            default:
                int i = oneIn(3) ? random.nextInt(300) : pick(4);
                due("adapter(" + a + ", " + b + ", " + i + ", " + q + ")", x.adapter(a, b, i, q),
                    y.adapter(a, b, i, q));
        }
    }

    // ---- helpers, rows and the log

    private int sparse(int bits) {
        if (oneIn(25)) {
            return WILD[random.nextInt(WILD.length)];
        }
        int set = 0;
        for (int i = 0; i < bits; i++) {
            set |= 1 << random.nextInt(oneIn(5) ? 12 : 5);
        }
        return set;
    }

    private void helperCall() {
        int s = pick(y.count(2));
        int what = oneIn(2) ? 4 : pick(5);
        if (y.count(2) < 8 && oneIn(3) || oneIn(20)) {
            int needs = sparse(random.nextInt(3));
            int gives = sparse(random.nextInt(3));
            int takes = sparse(random.nextInt(2));
            if (y.count(2) > 0 && oneIn(3)) {
                // one that may undo an earlier one
                int other = random.nextInt(y.count(2));
                needs = oneIn(2) ? needs : y.about(other, 6);
                gives = y.about(other, 7);
                takes = y.about(other, 6);
            }
            due("helper(" + needs + ", " + gives + ", " + takes + ")", x.helper(needs, gives, takes),
                y.helper(needs, gives, takes));
        } else if (oneIn(2)) {
            int v = oneIn(6) ? WILD[random.nextInt(WILD.length)] : random.nextInt(what == 4 ? 8 : what >= 2 ? 4 : 10);
            due("set(" + s + ", " + what + ", " + v + ")", x.set(s, what, v), y.set(s, what, v));
        } else if (oneIn(3)) {
            int f = pick(12);
            int v = oneIn(2) ? 0 : pick(4);
            due("level(" + f + ", " + v + ")", x.level(f, v), y.level(f, v));
        } else {
            int which = pick(8);
            due("about(" + s + ", " + which + ")", x.about(s, which), y.about(s, which));
        }
    }

    private void rowCall() {
        int s = pick(y.count(2));
        int facts = oneIn(8) ? 4095 : sparse(random.nextInt(4));
        int r = oneIn(10) ? pick(5) : 1 + random.nextInt(3);
        int part = pick(2);
        int f = pick(12);
        switch (random.nextInt(11)) {
            case 0:
            case 1:
                due("put(" + s + ")", x.put(s), y.put(s));
                break;
            case 2:
                if (oneIn(3)) {
                    due("empty()", x.empty(), y.empty());
                }
                break;
            case 3:
                due("at(" + r + ")", x.at(r), y.at(r));
                break;
            case 4:
                due("stops(" + facts + ")", x.stops(facts), y.stops(facts));
                break;
            case 5:
                due("after(" + facts + ")", x.after(facts), y.after(facts));
                break;
            case 6:
                due("taint(" + facts + ", " + f + ")", x.taint(facts, f), y.taint(facts, f));
                break;
            case 7:
                planCall(facts);
                break;
            case 8:
                due("chance(" + r + ", " + part + ")", x.chance(r, part), y.chance(r, part));
                break;
            case 9:
                due("mean(" + r + ", " + part + ")", x.mean(r, part), y.mean(r, part));
                break;
            default:
                due("undone(" + facts + ")", x.undone(facts), y.undone(facts));
        }
        due("costs()", x.costs(), y.costs());
    }

    private void planCall(int facts) {
        if (!oneIn(3)) {
            return;
        }
        int wish = sparse(1 + random.nextInt(2));
        int most = oneIn(2) ? 5 : pick(6);
        due("plan(" + facts + ", " + wish + ", " + most + ")", x.plan(facts, wish, most), y.plan(facts, wish, most));
        for (int i = -1; i < 6; i++) {
            due("at(" + i + ")", x.at(i), y.at(i));
        }
    }

    private void logCall() {
        int s = pick(y.count(2));
        int f = pick(12);
        if (y.broken() > 0 && oneIn(2)) {
            due("strike()", x.strike(), y.strike());
            return;
        }
        switch (random.nextInt(10)) {
            case 0:
            case 1:
            case 2:
                int how = oneIn(4) ? pick(3) : 2;
                due("call(" + s + ", " + how + ")", x.call(s, how), y.call(s, how));
                break;
            case 3:
                boolean is = oneIn(2);
                due("see(" + f + ", " + is + ")", x.see(f, is), y.see(f, is));
                break;
            case 4:
                due("strike()", x.strike(), y.strike());
                break;
            case 5:
                int t = pick(y.count(3) + 2);
                due("worlds(" + t + ")", x.worlds(t), y.worlds(t));
                break;
            case 6:
                int side = pick(2);
                due("held(" + side + ")", x.held(side), y.held(side));
                break;
            case 7:
                int i = pick(y.worlds(y.count(3)) + 1);
                due("world(" + i + ")", x.world(i), y.world(i));
                break;
            case 8:
                due("broken()", x.broken(), y.broken());
                break;
            default:
                due("again(" + s + ")", x.again(s), y.again(s));
        }
        if (oneIn(40)) {
            int facts = sparse(random.nextInt(12));
            due("begin(" + facts + ")", x.begin(facts), y.begin(facts));
        }
    }

    private void tellCall() {
        int what = pick(9);
        due("count(" + what + ")", x.count(what), y.count(what));
        due("digest()", x.digest(), y.digest());
    }

    private void set(int s, int what, int v) {
        due("set(" + s + ", " + what + ", " + v + ")", x.set(s, what, v), y.set(s, what, v));
    }

    /** Helpers of every sort, some of which undo others. */
    private OracleTest withCrew() {
        int size = 5 + random.nextInt(4);
        for (int s = 0; s < size; s++) {
            int needs = random.nextInt(64) & random.nextInt(64) & random.nextInt(64);
            int gives = random.nextInt(64) & random.nextInt(64) & ~(oneIn(2) ? needs : 0);
            int takes = random.nextInt(64) & random.nextInt(64) & (oneIn(2) ? needs : 63);
            if (s > 0 && oneIn(3)) {
                needs = y.about(s - 1, 6);
                gives = y.about(s - 1, 7);
                takes = y.about(s - 1, 6);
            }
            due("helper(" + needs + ", " + gives + ", " + takes + ")", x.helper(needs, gives, takes),
                y.helper(needs, gives, takes));
            set(s, 0, random.nextInt(oneIn(2) ? 4 : 51));
            set(s, 1, random.nextInt(10));
            set(s, 2, 1 + random.nextInt(3));
            set(s, 3, 3 - random.nextInt(3) * random.nextInt(2));
        }
        for (int s = 0; s < size; s++) {
            set(s, 4, s + 1 < size && oneIn(2) ? s + 1 : random.nextInt(size));
        }
        for (int f = 0; f < 6; f++) {
            int v = random.nextInt(4) * random.nextInt(2);
            due("level(" + f + ", " + v + ")", x.level(f, v), y.level(f, v));
        }
        return this;
    }

    private void talk(String text) {
        for (int from = 0; from < text.length(); from += 8) {
            letters(Check.packed(text, from));
        }
        due("talk()", x.talk(), y.talk());
        due("blank()", x.blank(), y.blank());
    }

    private String fewMessages(String text) {
        StringBuilder other = new StringBuilder();
        for (char letter : text.toCharArray()) {
            other.append(letter >= 'e' && letter <= 'h' ? (char) (letter - 3) : letter);
        }
        return other.toString();
    }

    /** Talks with partners that fit them, under other names or nearly, and one that chatters. */
    private OracleTest withPartners() {
        for (int i = 0; i < 2; i++) {
            String text = fewMessages(richRow(2, 1 + random.nextInt(3)));
            talk(text);
            talk(oneIn(2) ? renamed(dual(text)) : dual(text));
        }
        talk(chatter());
        talk(chatter());
        return this;
    }

    /** Joined by queues with its like, it goes to about as many places as may be walked. */
    private String chatter() {
        int messages = 4 + random.nextInt(5);
        StringBuilder text = new StringBuilder("{(!a");
        for (int m = 1; m < messages; m++) {
            text.append(oneIn(5) ? "|?" : "|!").append((char) ('a' + m)).append(oneIn(3) ? "!h" : "0");
        }
        return text.append(")}").toString();
    }

    private void go(int talks, int joins, int helpers, int rows, int logs) {
        while (calls < CALLS && !Check.isWrong()) {
            int draw = random.nextInt(talks + joins + helpers + rows + logs + 1);
            if (draw < talks) {
                talkCall();
            } else if (draw < talks + joins) {
                joinCall();
            } else if (draw < talks + joins + helpers) {
                helperCall();
            } else if (draw < talks + joins + helpers + rows) {
                rowCall();
            } else if (draw < talks + joins + helpers + rows + logs) {
                logCall();
            } else {
                tellCall();
            }
        }
    }

    public static void main(String[] args) {
        int runs = args.length > 0 ? Integer.parseInt(args[0]) : 40;
        long from = args.length > 1 ? Long.parseLong(args[1]) : 0;
        for (long seed = from; seed < from + runs && !Check.isWrong(); seed++) {
            new OracleTest(seed, "talks").go(30, 10, 0, 0, 0);
            new OracleTest(seed, "joins").go(10, 20, 0, 0, 0);
            new OracleTest(seed, "rows").go(0, 0, 6, 20, 0);
            new OracleTest(seed, "log").go(0, 0, 4, 0, 20);
            new OracleTest(seed, "partners").withPartners().go(3, 20, 0, 0, 0);
            new OracleTest(seed, "crew").withCrew().go(0, 0, 1, 20, 0);
            new OracleTest(seed, "crew's log").withCrew().go(0, 0, 1, 0, 20);
            new OracleTest(seed, "all").go(10, 6, 6, 10, 10);
        }
        Check.finish("OracleTest");
    }
}
