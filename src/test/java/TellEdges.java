import java.math.BigInteger;
import java.util.ArrayList;
import java.util.List;

/** Sentences of promises 41 and 42. */
final class TellEdges extends Edges {
    static void all() {
        counts();
        countRefused();
        digestOfNothing();
        digestOfPages();
        digestOfTalks();
        digestOfHelpers();
        digestOfRows();
        digestOfLogs();
        digestOfCounts();
    }

    private static void counts() {
        says("41", "`int count(int what)`: How many: 0 TALKS, 1 letters of THE PAGE, 2 HELPERS, 3 EVENTS, 4 how often "
            + "join() by queues, 5 adapters() and adapter(), 6 plan() were done, 7 HELPERS in THE ROW.");
        int[] most = {6, 80, 8, 30, 20, 20, 20, 5};
        for (int what = 0; what < 8; what++) {
            HelperWeave x = withTalks("?a");
            x.helper(0, 0, 0);
            for (int many = x.count(what); many <= most[what]; many++) {
                due("count(" + what + ")", x.count(what), many);
                oneMore(x, what);
            }
            due("count(" + what + ") when one more is refused", x.count(what), most[what]);
        }
        HelperWeave x = new HelperWeave();
        int[] due = {3, 7, 2, 9, 4, 6, 8, 5};
        for (int what = 0; what < 8; what++) {
            for (int many = 0; many < due[what]; many++) {
                oneMore(x, what);
            }
        }
        for (int what = 0; what < 8; what++) {
            due("all at once, count(" + what + ")", x.count(what), due[what]);
        }
    }

    private static void oneMore(HelperWeave x, int what) {
        switch (what) {
            case 0:
                x.letters(Check.packed("?a", 0));
                x.talk();
                break;
            case 1:
                x.letters('0');
                break;
            case 2:
                x.helper(0, 0, 0);
                break;
            case 3:
                x.see(0, false);
                break;
            case 4:
                x.join(0, 0, 1 + x.count(4) % 2);
                x.join(0, 0, 0);
                break;
            case 5:
                if (x.count(5) % 2 == 0) {
                    x.adapters(0, 0);
                } else {
                    x.adapter(0, 0, 0, 0);
                }
                break;
            case 6:
                x.plan(0, x.count(6) % 2, 0);
                break;
            default:
                x.put(0);
                break;
        }
    }

    private static void countRefused() {
        says("41", "OUTSIDE.");
        for (int what : new int[] {-1, 8, MIN, MAX}) {
            due("count(" + what + ")", new HelperWeave().count(what), O);
        }
    }

    // ---- the digest, folded without a bound and cut to 64 bits at last

    private static void isDigest(String name, HelperWeave x, List<Integer> numbers) {
        BigInteger h = BigInteger.valueOf(211);
        for (int number : numbers) {
            h = h.multiply(BigInteger.valueOf(31)).add(BigInteger.valueOf(number));
        }
        due("digest() of " + name, x.digest(), h.longValue());
        due("digest() of " + name + ", once more", x.digest(), h.longValue());
    }

    private static List<Integer> row(int... numbers) {
        List<Integer> row = new ArrayList<>();
        for (int number : numbers) {
            row.add(number);
        }
        return row;
    }

    /** What comes behind the helpers of an object with nothing else in it. */
    private static List<Integer> withRest(List<Integer> ahead) {
        List<Integer> all = new ArrayList<>(ahead);
        all.addAll(row(new int[12]));
        all.addAll(row(0, 1, 0, 0, 0));
        return all;
    }

    private static void digestOfNothing() {
        says("42", "`long digest()`: h is 211, then for each of these numbers, in order, 31 times h, and it (as longs, "
            + "wrapping):");
        isDigest("a new object", new HelperWeave(), withRest(row()));
        BigInteger whole = BigInteger.valueOf(211).multiply(BigInteger.valueOf(31).pow(17)).add(BigInteger.valueOf(29791));
        isTrue("it wraps", whole.bitLength() > 63);
        int below = 0;
        for (int code = 1; code <= 126; code++) {
            HelperWeave x = pageOf("" + (char) code);
            isDigest("letter " + code, x, withRest(row(code)));
            below += x.digest() < 0 ? 1 : 0;
        }
        isTrue("some are below 0, and some are not: " + below, below > 0 && below < 126);
    }

    private static void digestOfPages() {
        says("42", "letters of THE PAGE;");
        for (String text : new String[] {"a", "~", "\1", "?a", "a?", "0".repeat(80)}) {
            List<Integer> codes = new ArrayList<>();
            text.chars().forEach(codes::add);
            isDigest("'" + text + "'", pageOf(text), withRest(codes));
        }
        HelperWeave x = pageOf("?a!b");
        x.blank();
        isDigest("a page that is blank again", x, withRest(row()));
    }

    private static void addTalk(List<Integer> numbers, String text) {
        HelperWeave x = withTalks(text);
        numbers.add(x.steps(0));
        for (int state = 0; state <= x.steps(0); state++) {
            numbers.add(x.ends(0, state));
            for (int kind = 0; kind < 16; kind++) {
                numbers.add(x.next(0, state, kind / 8, kind % 8));
            }
        }
    }

    private static void digestOfTalks() {
        says("42", "of each TALK how many STEPS, of each STATE 1 if it MAY END, else 0, and what next() tells for signs "
            + "0, 1, each for MESSAGES 0 to 7;");
        List<Integer> none = row(0, 1);
        for (int kind = 0; kind < 16; kind++) {
            none.add(N);
        }
        isDigest("0", withTalks("0"), withRest(none));
        String[] texts = {"?a!h", "0", "{(?a|!b)}?c", "?a".repeat(24), SAYS_ALL, "!a"};
        List<Integer> numbers = new ArrayList<>();
        for (String text : texts) {
            addTalk(numbers, text);
        }
        isDigest("six TALKS", withTalks(texts), withRest(numbers));
        HelperWeave x = withTalks("?a");
        Check.write(x, "?b");
        List<Integer> both = row('?', 'b');
        addTalk(both, "?a");
        isDigest("THE PAGE ahead of a TALK", x, withRest(both));
    }

    private static void digestOfHelpers() {
        says("42", "of each HELPER what about() tells for 0 to 7;");
        isDigest("a HELPER", withHelpers(1, 2, 4), withRest(row(0, 0, 3, 3, N, 1, 2, 4)));
        HelperWeave x = withHelpers(1, 2, 4, 4095, 4094, 4093);
        x.set(1, PRICE, 50);
        x.set(1, FAILS, 9);
        x.set(1, QUOTA, 1);
        x.set(1, TRUST, 0);
        x.set(1, UNDO, 0);
        isDigest("two HELPERS", x, withRest(row(0, 0, 3, 3, N, 1, 2, 4, 50, 9, 1, 0, 0, 4095, 4094, 4093)));
    }

    private static void digestOfRows() {
        says("42", "LEVELS;");
        HelperWeave x = new HelperWeave();
        List<Integer> numbers = new ArrayList<>();
        for (int f = 0; f < 12; f++) {
            x.level(f, (f + 1) % 4);
            numbers.add((f + 1) % 4);
        }
        numbers.addAll(row(0, 1, 0, 0, 0));
        isDigest("LEVELS", x, numbers);
        says("42", "THE ROW;");
        HelperWeave y = withHelpers(0, 0, 0, 0, 0, 0, 0, 0, 0);
        List<Integer> helpers = new ArrayList<>();
        for (int s = 0; s < 3; s++) {
            helpers.addAll(row(0, 0, 3, 3, N, 0, 0, 0));
        }
        helpers.addAll(row(new int[12]));
        int[][] rows = {{}, {0}, {2, 1, 0}, {1, 2, 1, 2, 2}, {2}};
        for (int[] places : rows) {
            row(y, places);
            List<Integer> all = new ArrayList<>(helpers);
            all.addAll(row(places));
            all.addAll(row(0, 1, 0, 0, 0));
            isDigest("a ROW of " + places.length, y, all);
        }
    }

    private static void digestOfLogs() {
        says("42", "how many EVENTS, how many WORLDS at the end;");
        HelperWeave x = withHelpers(0, 1, 0);
        List<Integer> ahead = row(0, 0, 3, 3, N, 0, 1, 0);
        ahead.addAll(row(new int[12]));
        for (int t = 1; t <= 30; t++) {
            x.call(0, t < 30 ? LOST : DONE);
            List<Integer> all = new ArrayList<>(ahead);
            all.addAll(row(t, t < 30 ? 2 : 1, 0, 0, 0));
            isDigest(t + " EVENTS", x, all);
        }
        x.begin(0);
        x.see(0, true);
        ahead.addAll(row(1, 0, 0, 0, 0));
        isDigest("no WORLD", x, ahead);
    }

    private static void digestOfCounts() {
        says("42", "what count() tells for 4 to 6.");
        HelperWeave x = withTalks("0");
        List<Integer> talk = new ArrayList<>();
        addTalk(talk, "0");
        talk.addAll(row(new int[12]));
        for (int many = 1; many <= 20; many++) {
            x.join(0, 0, 1);
            if (many <= 19) {
                x.adapters(0, 0);
            }
            if (many <= 18) {
                x.plan(0, 1, 0);
            }
            List<Integer> all = new ArrayList<>(talk);
            all.addAll(row(0, 1, many, Math.min(many, 19), Math.min(many, 18)));
            isDigest("counts of " + many, x, all);
        }
    }
}
