import java.math.BigInteger;
import java.util.ArrayList;
import java.util.Arrays;
import java.util.Comparator;
import java.util.HashMap;
import java.util.HashSet;
import java.util.LinkedHashMap;
import java.util.List;
import java.util.Map;
import java.util.Set;
import java.util.TreeMap;
import java.util.TreeSet;

/**
 * The document once more, written from its words with sets, trees and searches through everything,
 * with nothing of HelperWeave in it: OracleTest compares the two.
 */
final class Oracle {
    static final int NONE = -1, UNKNOWN = -101, OUTSIDE = -102, STATE = -103, FULL = -104;

    // ---- talks

    /** A piece of text that was read. */
    static final class Node {
        char kind; // 's' step, '0' nothing, '.' row, '|' choice, '*' repeated
        int step;
        final List<Node> parts = new ArrayList<>();

        Node(char kind) {
            this.kind = kind;
        }

        boolean idle() {
            switch (kind) {
                case 's': return false;
                case '0': case '*': return true;
                case '.': return parts.stream().allMatch(Node::idle);
                default: return parts.stream().anyMatch(Node::idle);
            }
        }

        Set<Integer> edge(boolean first) {
            Set<Integer> found = new TreeSet<>();
            if (kind == 's') {
                found.add(step);
            } else if (kind == '.') {
                for (int i = 0; i < parts.size(); i++) {
                    Node part = parts.get(first ? i : parts.size() - 1 - i);
                    found.addAll(part.edge(first));
                    if (!part.idle()) {
                        break;
                    }
                }
            } else {
                for (Node part : parts) {
                    found.addAll(part.edge(first));
                }
            }
            return found;
        }

        void follow(Map<Integer, Set<Integer>> next) {
            for (Node part : parts) {
                part.follow(next);
            }
            if (kind == '*') {
                cross(next, edge(false), edge(true));
            }
            if (kind == '.') {
                for (int i = 0; i < parts.size(); i++) {
                    for (int j = i + 1; j < parts.size(); j++) {
                        boolean between = true;
                        for (int k = i + 1; k < j; k++) {
                            between &= parts.get(k).idle();
                        }
                        if (between) {
                            cross(next, parts.get(i).edge(false), parts.get(j).edge(true));
                        }
                    }
                }
            }
        }

        static void cross(Map<Integer, Set<Integer>> next, Set<Integer> from, Set<Integer> to) {
            for (int i : from) {
                next.computeIfAbsent(i, key -> new TreeSet<>()).addAll(to);
            }
        }
    }

    /** Says how far a text could be read. */
    static final class Misread extends Exception {
        private static final long serialVersionUID = 1;
        final int at;

        Misread(int at) {
            this.at = at;
        }
    }

    /** Reads by going down; the first letter that no rule takes is where it ends. */
    static final class Parser {
        final String text;
        int at = 0;
        final List<Integer> signs = new ArrayList<>();
        final List<Integer> messages = new ArrayList<>();

        Parser(String text) {
            this.text = text;
        }

        char peek() throws Misread {
            if (at >= text.length()) {
                throw new Misread(text.length());
            }
            return text.charAt(at);
        }

        Node whole() throws Misread {
            Node talk = row();
            if (at < text.length()) {
                throw new Misread(at);
            }
            return talk;
        }

        Node row() throws Misread {
            Node row = new Node('.');
            row.parts.add(piece());
            while (at < text.length() && "?!({0".indexOf(text.charAt(at)) >= 0) {
                row.parts.add(piece());
            }
            return row;
        }

        Node piece() throws Misread {
            char letter = peek();
            if ("?!({0".indexOf(letter) < 0) {
                throw new Misread(at);
            }
            at++;
            if (letter == '0') {
                return new Node('0');
            }
            if (letter == '?' || letter == '!') {
                int m = peek() - 'a';
                if (m < 0 || m > 7) {
                    throw new Misread(at);
                }
                at++;
                signs.add(letter == '?' ? 0 : 1);
                messages.add(m);
                Node step = new Node('s');
                step.step = signs.size();
                return step;
            }
            Node node = new Node(letter == '(' ? '|' : '*');
            node.parts.add(row());
            if (letter == '{') {
                take('}');
                return node;
            }
            take('|');
            node.parts.add(row());
            while (peek() == '|') {
                at++;
                node.parts.add(row());
            }
            take(')');
            return node;
        }

        void take(char letter) throws Misread {
            if (peek() != letter) {
                throw new Misread(at);
            }
            at++;
        }
    }

    static final class Machine {
        int steps;
        final Map<Integer, Set<Integer>> next = new TreeMap<>();
        final Set<Integer> ends = new TreeSet<>();
        List<Integer> signs;
        List<Integer> messages;

        Machine(Node talk, Parser parser) {
            steps = parser.signs.size();
            signs = parser.signs;
            messages = parser.messages;
            talk.follow(next);
            next.put(0, talk.edge(true));
            ends.addAll(talk.edge(false));
            if (talk.idle()) {
                ends.add(0);
            }
        }

        Set<Integer> from(int state) {
            return next.getOrDefault(state, Set.of());
        }

        boolean twofold() {
            for (int state = 0; state <= steps; state++) {
                Set<Integer> seen = new HashSet<>();
                for (int s : from(state)) {
                    if (!seen.add(signs.get(s - 1) * 8 + messages.get(s - 1))) {
                        return true;
                    }
                }
            }
            return false;
        }

        int behind(int state, int sign, int m) {
            for (int s : from(state)) {
                if (signs.get(s - 1) == sign && messages.get(s - 1) == m) {
                    return s;
                }
            }
            return NONE;
        }

        Set<Integer> kinds(int state, int sign) {
            Set<Integer> found = new TreeSet<>();
            for (int s : from(state)) {
                if (signs.get(s - 1) == sign) {
                    found.add(messages.get(s - 1));
                }
            }
            return found;
        }

        /** The same machine with other messages. */
        Machine renamed(Map<Integer, Integer> names) {
            Machine other = new Machine(this);
            other.messages = new ArrayList<>();
            for (int m : messages) {
                other.messages.add(names.get(m));
            }
            return other;
        }

        private Machine(Machine like) {
            steps = like.steps;
            signs = like.signs;
            next.putAll(like.next);
            ends.addAll(like.ends);
        }
    }

    private String page = "";
    private final List<Machine> talks = new ArrayList<>();

    int letters(long w) {
        StringBuilder more = new StringBuilder();
        boolean over = false;
        for (int i = 0; i < 8; i++) {
            int code = (int) (w >> 8 * i & 0xFF);
            if (code > 126 || over && code != 0) {
                return OUTSIDE;
            }
            if (code == 0) {
                over = true;
            } else {
                more.append((char) code);
            }
        }
        if (page.length() + more.length() > 80) {
            return FULL;
        }
        page += more;
        return page.length();
    }

    int blank() {
        int had = page.length();
        page = "";
        return had;
    }

    int good() {
        try {
            new Parser(page).whole();
            return page.length();
        } catch (Misread stop) {
            return stop.at;
        }
    }

    int talk() {
        Parser parser = new Parser(page);
        Machine machine;
        try {
            machine = new Machine(parser.whole(), parser);
        } catch (Misread stop) {
            return STATE;
        }
        if (machine.steps > 24 || machine.twofold()) {
            return OUTSIDE;
        }
        if (talks.size() == 6) {
            return FULL;
        }
        talks.add(machine);
        page = "";
        return talks.size() - 1;
    }

    private boolean noTalk(int t) {
        return t < 0 || t >= talks.size();
    }

    private boolean noState(int t, int state) {
        return noTalk(t) || state < 0 || state > talks.get(t).steps;
    }

    int steps(int t) {
        return noTalk(t) ? UNKNOWN : talks.get(t).steps;
    }

    int next(int t, int state, int sign, int m) {
        if (noState(t, state)) {
            return UNKNOWN;
        }
        if (sign < 0 || sign > 1 || m < 0 || m > 7) {
            return OUTSIDE;
        }
        return talks.get(t).behind(state, sign, m);
    }

    int ends(int t, int state) {
        if (noState(t, state)) {
            return UNKNOWN;
        }
        return talks.get(t).ends.contains(state) ? 1 : 0;
    }

    int uses(int t, int sign) {
        if (noTalk(t)) {
            return UNKNOWN;
        }
        if (sign < 0 || sign > 1) {
            return OUTSIDE;
        }
        int found = 0;
        Machine talk = talks.get(t);
        for (int s = 0; s < talk.steps; s++) {
            if (talk.signs.get(s) == sign) {
                found |= 1 << talk.messages.get(s);
            }
        }
        return found;
    }

    // ---- joined

    /** A place in a walk, with its name, and what can be done there. */
    private static final class Spot {
        final int i;
        final int j;
        final String toA;
        final String toB;

        Spot(int i, int j, String toA, String toB) {
            this.i = i;
            this.j = j;
            this.toA = toA;
            this.toB = toB;
        }

        String name() {
            return i + "," + j + "," + toA + "," + toB;
        }
    }

    static final class Joined {
        int answer;
        int walked;
        List<Integer> way = List.of();
    }

    private static Map<Integer, Spot> moves(Machine a, Machine b, int k, Spot at) {
        Map<Integer, Spot> found = new TreeMap<>();
        for (int m = 0; m < 8; m++) {
            int aSays = a.behind(at.i, 1, m);
            int bSays = b.behind(at.j, 1, m);
            int aHears = a.behind(at.i, 0, m);
            int bHears = b.behind(at.j, 0, m);
            String name = "" + (char) ('a' + m);
            if (k == 0) {
                if (aSays != NONE && bHears != NONE) {
                    found.put(2 * m, new Spot(aSays, bHears, "", ""));
                }
                if (bSays != NONE && aHears != NONE) {
                    found.put(2 * m + 1, new Spot(aHears, bSays, "", ""));
                }
                continue;
            }
            if (aSays != NONE && at.toB.length() < k) {
                found.put(m, new Spot(aSays, at.j, at.toA, at.toB + name));
            }
            if (bSays != NONE && at.toA.length() < k) {
                found.put(8 + m, new Spot(at.i, bSays, at.toA + name, at.toB));
            }
            if (at.toA.startsWith(name) && aHears != NONE) {
                found.put(16, new Spot(aHears, at.j, at.toA.substring(1), at.toB));
            }
            if (at.toB.startsWith(name) && bHears != NONE) {
                found.put(17, new Spot(at.i, bHears, at.toA, at.toB.substring(1)));
            }
        }
        return found;
    }

    private static int faultAt(Machine a, Machine b, int k, Spot at) {
        if (k == 0) {
            boolean heard = b.kinds(at.j, 0).containsAll(a.kinds(at.i, 1))
                && a.kinds(at.i, 0).containsAll(b.kinds(at.j, 1));
            if (!heard) {
                return 2;
            }
        }
        boolean over = a.ends.contains(at.i) && b.ends.contains(at.j) && at.toA.isEmpty() && at.toB.isEmpty();
        return moves(a, b, k, at).isEmpty() && !over ? 1 : 0;
    }

    private static int compareWays(List<Integer> x, List<Integer> y) {
        for (int i = 0; i < x.size() && i < y.size(); i++) {
            if (!x.get(i).equals(y.get(i))) {
                return Integer.compare(x.get(i), y.get(i));
            }
        }
        return Integer.compare(x.size(), y.size());
    }

    /** Layer by layer, each place with the least of all rows that lead to it in its layer. */
    static Joined joined(Machine a, Machine b, int k) {
        Joined result = new Joined();
        Set<String> known = new HashSet<>();
        Map<String, Spot> layer = new LinkedHashMap<>();
        Map<String, List<Integer>> ways = new HashMap<>();
        Spot start = new Spot(0, 0, "", "");
        layer.put(start.name(), start);
        ways.put(start.name(), List.of());
        known.add(start.name());
        List<Integer> least = null;
        while (!layer.isEmpty()) {
            boolean open = least == null;
            for (Spot at : layer.values()) {
                int fault = open ? faultAt(a, b, k, at) : 0;
                List<Integer> way = ways.get(at.name());
                if (fault != 0 && (least == null || compareWays(way, least) < 0)) {
                    least = way;
                    result.answer = fault;
                }
            }
            Map<String, Spot> following = new LinkedHashMap<>();
            Map<String, List<Integer>> followingWays = new HashMap<>();
            for (Spot at : layer.values()) {
                for (Map.Entry<Integer, Spot> move : moves(a, b, k, at).entrySet()) {
                    String name = move.getValue().name();
                    if (known.contains(name)) {
                        continue;
                    }
                    List<Integer> way = new ArrayList<>(ways.get(at.name()));
                    way.add(move.getKey());
                    List<Integer> other = followingWays.get(name);
                    if (other == null || compareWays(way, other) < 0) {
                        followingWays.put(name, way);
                    }
                    following.put(name, move.getValue());
                }
            }
            known.addAll(following.keySet());
            layer = following;
            ways = followingWays;
            if (k > 0 && known.size() > 4000) {
                result.answer = 3;
                result.walked = 4000;
                return result;
            }
        }
        result.walked = known.size();
        if (least != null) {
            result.way = least;
        }
        return result;
    }

    private Joined latest = new Joined();
    private int queueJoins = 0;
    private int adaptings = 0;

    int join(int a, int b, int k) {
        if (noTalk(a) || noTalk(b)) {
            return UNKNOWN;
        }
        if (k < 0 || k > 2) {
            return OUTSIDE;
        }
        if (k > 0 && queueJoins == 20) {
            return STATE;
        }
        if (k > 0) {
            queueJoins++;
        }
        latest = joined(talks.get(a), talks.get(b), k);
        return latest.answer;
    }

    int walked() {
        return latest.walked;
    }

    int trace(int i) {
        return i < 0 || i >= latest.way.size() ? NONE : latest.way.get(i);
    }

    /** Turn by turn a whole new table out of the old one, far more turns than there are pairs. */
    private static boolean[][] fits(Machine x, Machine y) {
        boolean[][] table = new boolean[x.steps + 1][y.steps + 1];
        for (boolean[] row : table) {
            Arrays.fill(row, true);
        }
        for (int turn = 0; turn < 700; turn++) {
            boolean[][] now = new boolean[x.steps + 1][y.steps + 1];
            for (int p = 0; p <= x.steps; p++) {
                for (int q = 0; q <= y.steps; q++) {
                    now[p][q] = fitsOnce(x, y, p, q, table);
                }
            }
            if (Arrays.deepEquals(now, table)) {
                return now;
            }
            table = now;
        }
        return table;
    }

    private static boolean fitsOnce(Machine x, Machine y, int p, int q, boolean[][] table) {
        for (int m : y.kinds(q, 0)) {
            if (!x.kinds(p, 0).contains(m) || !table[x.behind(p, 0, m)][y.behind(q, 0, m)]) {
                return false;
            }
        }
        for (int m : x.kinds(p, 1)) {
            if (!y.kinds(q, 1).contains(m) || !table[x.behind(p, 1, m)][y.behind(q, 1, m)]) {
                return false;
            }
        }
        if (x.kinds(p, 1).isEmpty() && !y.kinds(q, 1).isEmpty()) {
            return false;
        }
        return x.ends.contains(p) == y.ends.contains(q);
    }

    int fit(int x, int y) {
        if (noTalk(x) || noTalk(y)) {
            return UNKNOWN;
        }
        return fits(talks.get(x), talks.get(y))[0][0] ? 1 : 0;
    }

    int swap(int x, int y, int q) {
        if (noTalk(x) || noState(y, q)) {
            return UNKNOWN;
        }
        boolean[][] table = fits(talks.get(x), talks.get(y));
        for (int p = 0; p < table.length; p++) {
            if (table[p][q]) {
                return p;
            }
        }
        return NONE;
    }

    private final Map<Integer, List<Map<Integer, Integer>>> adapters = new HashMap<>();

    private List<Map<Integer, Integer>> adaptersOf(int a, int b) {
        return adapters.computeIfAbsent(a * 6 + b, key -> {
            List<Map<Integer, Integer>> found = new ArrayList<>();
            List<Integer> used = new ArrayList<>(new TreeSet<>(talks.get(a).messages));
            adapt(talks.get(a), talks.get(b), used, new TreeMap<>(), found);
            return found;
        });
    }

    private static void adapt(Machine a, Machine b, List<Integer> used, Map<Integer, Integer> names,
                              List<Map<Integer, Integer>> found) {
        if (names.size() == used.size()) {
            if (joined(a.renamed(names), b, 0).answer == 0) {
                found.add(new TreeMap<>(names));
            }
            return;
        }
        int m = used.get(names.size());
        for (int n = 0; n < 8; n++) {
            if (!names.containsValue(n)) {
                names.put(m, n);
                adapt(a, b, used, names, found);
                names.remove(m);
            }
        }
    }

    int adapters(int a, int b) {
        if (noTalk(a) || noTalk(b)) {
            return UNKNOWN;
        }
        if (new TreeSet<>(talks.get(a).messages).size() > 5) {
            return OUTSIDE;
        }
        if (adaptings == 20) {
            return STATE;
        }
        adaptings++;
        return adaptersOf(a, b).size();
    }

    int adapter(int a, int b, int i, int m) {
        if (noTalk(a) || noTalk(b)) {
            return UNKNOWN;
        }
        if (new TreeSet<>(talks.get(a).messages).size() > 5 || m < 0 || m > 7) {
            return OUTSIDE;
        }
        if (adaptings == 20) {
            return STATE;
        }
        adaptings++;
        List<Map<Integer, Integer>> all = adaptersOf(a, b);
        return i < 0 || i >= all.size() ? NONE : all.get(i).getOrDefault(m, NONE);
    }

    // ---- helpers

    private final List<int[]> helpers = new ArrayList<>();
    private final int[] levels = new int[12];
    private List<Integer> row = new ArrayList<>();
    private int plans = 0;

    private static boolean noSet(int facts) {
        return facts < 0 || facts > 4095;
    }

    private boolean noHelper(int s) {
        return s < 0 || s >= helpers.size();
    }

    private static Set<Integer> facts(int bits) {
        Set<Integer> found = new TreeSet<>();
        for (int f = 0; f < 12; f++) {
            if ((bits & 1 << f) != 0) {
                found.add(f);
            }
        }
        return found;
    }

    private static int bits(Set<Integer> facts) {
        int found = 0;
        for (int f : facts) {
            found += 1 << f;
        }
        return found;
    }

    int helper(int needs, int gives, int takes) {
        if (noSet(needs) || noSet(gives) || noSet(takes)) {
            return OUTSIDE;
        }
        if (helpers.size() == 8) {
            return FULL;
        }
        helpers.add(new int[] {0, 0, 3, 3, NONE, needs, gives, takes});
        return helpers.size() - 1;
    }

    int set(int s, int what, int v) {
        if (noHelper(s) || what < 0 || what > 4) {
            return UNKNOWN;
        }
        if (what == 4 && v != NONE && noHelper(v)) {
            return UNKNOWN;
        }
        boolean outside = what == 0 && (v < 0 || v > 50) || what == 1 && (v < 0 || v > 9)
            || what == 2 && (v < 1 || v > 3) || what == 3 && (v < 0 || v > 3);
        if (outside) {
            return OUTSIDE;
        }
        int was = helpers.get(s)[what];
        helpers.get(s)[what] = v;
        return was;
    }

    int level(int f, int v) {
        if (f < 0 || f > 11) {
            return UNKNOWN;
        }
        if (v < 0 || v > 3) {
            return OUTSIDE;
        }
        int was = levels[f];
        levels[f] = v;
        return was;
    }

    int about(int s, int what) {
        if (noHelper(s)) {
            return UNKNOWN;
        }
        return what < 0 || what > 7 ? OUTSIDE : helpers.get(s)[what];
    }

    // ---- rows

    int put(int s) {
        if (noHelper(s)) {
            return UNKNOWN;
        }
        if (row.size() == 5) {
            return FULL;
        }
        row.add(s);
        return row.size();
    }

    int empty() {
        int had = row.size();
        row = new ArrayList<>();
        return had;
    }

    int at(int i) {
        return i < 0 || i >= row.size() ? NONE : row.get(i);
    }

    /** Facts that are held, each with its taint. */
    private Map<Integer, Integer> first(int facts) {
        Map<Integer, Integer> held = new TreeMap<>();
        for (int f : facts(facts)) {
            held.put(f, levels[f]);
        }
        return held;
    }

    private boolean may(int s, Map<Integer, Integer> held) {
        for (int f : facts(helpers.get(s)[5])) {
            if (!held.containsKey(f) || held.get(f) > helpers.get(s)[3]) {
                return false;
            }
        }
        return true;
    }

    private Map<Integer, Integer> gone(int s, Map<Integer, Integer> held) {
        Map<Integer, Integer> later = new TreeMap<>(held);
        for (int f : facts(helpers.get(s)[7])) {
            later.remove(f);
        }
        for (int f : facts(helpers.get(s)[6])) {
            int taint = levels[f];
            for (int need : facts(helpers.get(s)[5])) {
                taint = Math.max(taint, held.get(need));
            }
            later.put(f, taint);
        }
        return later;
    }

    /** What is held behind a row, or null where it does not go: then stop[0] tells the place. */
    private Map<Integer, Integer> run(List<Integer> helpersInRow, int facts, int[] stop) {
        Map<Integer, Integer> held = first(facts);
        for (int i = 0; i < helpersInRow.size(); i++) {
            int s = helpersInRow.get(i);
            long before = helpersInRow.subList(0, i).stream().filter(o -> o == s).count();
            if (!may(s, held) || before >= helpers.get(s)[2]) {
                stop[0] = i;
                return null;
            }
            held = gone(s, held);
        }
        stop[0] = NONE;
        return held;
    }

    int stops(int facts) {
        if (noSet(facts)) {
            return OUTSIDE;
        }
        int[] stop = new int[1];
        run(row, facts, stop);
        return stop[0];
    }

    int after(int facts) {
        if (noSet(facts)) {
            return OUTSIDE;
        }
        Map<Integer, Integer> held = run(row, facts, new int[1]);
        return held == null ? STATE : bits(held.keySet());
    }

    int taint(int facts, int f) {
        if (f < 0 || f > 11) {
            return UNKNOWN;
        }
        if (noSet(facts)) {
            return OUTSIDE;
        }
        Map<Integer, Integer> held = run(row, facts, new int[1]);
        return held == null ? STATE : held.getOrDefault(f, NONE);
    }

    private int price(List<Integer> helpersInRow) {
        return helpersInRow.stream().mapToInt(s -> helpers.get(s)[0]).sum();
    }

    int costs() {
        return price(row);
    }

    int plan(int facts, int wish, int most) {
        if (noSet(facts) || noSet(wish) || most < 0 || most > 5) {
            return OUTSIDE;
        }
        if (plans == 20) {
            return STATE;
        }
        plans++;
        List<List<Integer>> all = new ArrayList<>();
        all.add(List.of());
        for (int i = 0; i < all.size(); i++) {
            List<Integer> shorter = all.get(i);
            for (int s = 0; s < helpers.size() && shorter.size() < most; s++) {
                List<Integer> longer = new ArrayList<>(shorter);
                longer.add(s);
                all.add(longer);
            }
        }
        List<List<Integer>> good = new ArrayList<>();
        for (List<Integer> one : all) {
            Map<Integer, Integer> held = run(one, facts, new int[1]);
            if (held != null && held.keySet().containsAll(facts(wish))) {
                good.add(one);
            }
        }
        if (good.isEmpty()) {
            return NONE;
        }
        Comparator<List<Integer>> order = Comparator.comparingInt(this::price);
        order = order.thenComparingInt(List::size).thenComparing(Oracle::compareWays);
        row = new ArrayList<>(good.stream().min(order).get());
        return price(row);
    }

    private static long part(BigInteger above, BigInteger below, int part) {
        BigInteger divisor = above.gcd(below);
        return (part == 0 ? above : below).divide(divisor).longValueExact();
    }

    long chance(int r, int part) {
        if (r < 1 || r > 3 || part < 0 || part > 1) {
            return OUTSIDE;
        }
        BigInteger above = BigInteger.ONE;
        for (int s : row) {
            BigInteger stops = BigInteger.valueOf(helpers.get(s)[1]).pow(r);
            above = above.multiply(BigInteger.TEN.pow(r).subtract(stops));
        }
        return part(above, BigInteger.TEN.pow(r * row.size()), part);
    }

    /** Goes through every course of tries: what it costs, times how likely it is, in 10^15ths. */
    private BigInteger meanFrom(int place, int tried, int r, int cost, BigInteger weight) {
        BigInteger paid = weight.multiply(BigInteger.valueOf(cost));
        if (place == row.size() || tried == r) {
            return paid;
        }
        int[] helper = helpers.get(row.get(place));
        BigInteger tenth = weight.divide(BigInteger.TEN);
        BigInteger fails = tenth.multiply(BigInteger.valueOf(helper[1]));
        BigInteger goes = tenth.multiply(BigInteger.valueOf(10 - helper[1]));
        return meanFrom(place, tried + 1, r, cost + helper[0], fails)
            .add(meanFrom(place + 1, 0, r, cost + helper[0], goes));
    }

    long mean(int r, int part) {
        if (r < 1 || r > 3 || part < 0 || part > 1) {
            return OUTSIDE;
        }
        BigInteger whole = BigInteger.TEN.pow(15);
        return part(meanFrom(0, 0, r, 0, whole), whole, part);
    }

    int undone(int facts) {
        if (noSet(facts)) {
            return OUTSIDE;
        }
        if (run(row, facts, new int[1]) == null) {
            return STATE;
        }
        int found = 0;
        for (int k = 0; k <= row.size(); k++) {
            Map<Integer, Integer> held = run(row.subList(0, k), facts, new int[1]);
            for (int i = k - 1; i >= 0 && held != null; i--) {
                int undo = helpers.get(row.get(i))[4];
                held = undo == NONE || !may(undo, held) ? null : gone(undo, held);
            }
            if (held != null && held.keySet().equals(facts(facts))) {
                found |= 1 << k;
            }
        }
        return found;
    }

    // ---- the log

    private int start = 0;
    private final List<int[]> events = new ArrayList<>();

    int begin(int facts) {
        if (noSet(facts)) {
            return OUTSIDE;
        }
        start = facts;
        events.clear();
        return 1;
    }

    int call(int s, int how) {
        if (noHelper(s)) {
            return UNKNOWN;
        }
        if (how < 0 || how > 2) {
            return OUTSIDE;
        }
        if (events.size() == 30) {
            return FULL;
        }
        events.add(new int[] {how, s});
        return events.size();
    }

    int see(int f, boolean is) {
        if (f < 0 || f > 11) {
            return UNKNOWN;
        }
        if (events.size() == 30) {
            return FULL;
        }
        events.add(new int[] {is ? 3 : 4, f});
        return events.size();
    }

    int strike() {
        if (events.isEmpty()) {
            return STATE;
        }
        events.remove(events.size() - 1);
        return events.size();
    }

    private TreeSet<Integer> worldsBehind(int t) {
        TreeSet<Integer> worlds = new TreeSet<>(List.of(start));
        for (int[] event : events.subList(0, t)) {
            TreeSet<Integer> later = new TreeSet<>();
            for (int w : worlds) {
                if (event[0] >= 3) {
                    if (facts(w).contains(event[1]) == (event[0] == 3)) {
                        later.add(w);
                    }
                    continue;
                }
                int[] helper = helpers.get(event[1]);
                boolean can = facts(w).containsAll(facts(helper[5]));
                if (event[0] == 1 || event[0] == 2) {
                    later.add(w);
                }
                if (event[0] != 1 && can) {
                    later.add(changed(w, helper));
                }
            }
            worlds = later;
        }
        return worlds;
    }

    private static int changed(int w, int[] helper) {
        Set<Integer> held = facts(w);
        held.removeAll(facts(helper[7]));
        held.addAll(facts(helper[6]));
        return bits(held);
    }

    private TreeSet<Integer> last() {
        return worldsBehind(events.size());
    }

    int worlds(int t) {
        return t < 0 || t > events.size() ? UNKNOWN : worldsBehind(t).size();
    }

    int held(int side) {
        if (side < 0 || side > 1) {
            return OUTSIDE;
        }
        if (last().isEmpty()) {
            return STATE;
        }
        int all = 4095;
        int some = 0;
        for (int w : last()) {
            all &= w;
            some |= w;
        }
        return side == 0 ? all : some;
    }

    int world(int i) {
        List<Integer> worlds = new ArrayList<>(last());
        return i < 0 || i >= worlds.size() ? NONE : worlds.get(i);
    }

    int broken() {
        for (int t = 1; t <= events.size(); t++) {
            if (worldsBehind(t).isEmpty()) {
                return t;
            }
        }
        return 0;
    }

    int again(int s) {
        if (noHelper(s)) {
            return UNKNOWN;
        }
        if (last().isEmpty()) {
            return STATE;
        }
        for (int w : last()) {
            boolean can = facts(w).containsAll(facts(helpers.get(s)[5]));
            if (!can || changed(w, helpers.get(s)) != w) {
                return 0;
            }
        }
        return 1;
    }

    // ---- what is told

    int count(int what) {
        int[] told = {talks.size(), page.length(), helpers.size(), events.size(), queueJoins, adaptings, plans,
            row.size()};
        return what < 0 || what > 7 ? OUTSIDE : told[what];
    }

    long digest() {
        List<Integer> numbers = new ArrayList<>();
        for (char letter : page.toCharArray()) {
            numbers.add((int) letter);
        }
        for (int t = 0; t < talks.size(); t++) {
            numbers.add(steps(t));
            for (int state = 0; state <= steps(t); state++) {
                numbers.add(ends(t, state));
                for (int kind = 0; kind < 16; kind++) {
                    numbers.add(next(t, state, kind / 8, kind % 8));
                }
            }
        }
        for (int s = 0; s < helpers.size(); s++) {
            for (int what = 0; what < 8; what++) {
                numbers.add(about(s, what));
            }
        }
        for (int level : levels) {
            numbers.add(level);
        }
        numbers.addAll(row);
        numbers.add(events.size());
        numbers.add(last().size());
        for (int what = 4; what <= 6; what++) {
            numbers.add(count(what));
        }
        long h = 211;
        for (int number : numbers) {
            h = 31 * h + number;
        }
        return h;
    }
}
