/** Promises 10 to 16: talks joined, fitted and adapted. */
final class JoinTest {
    private static final int U = HelperWeave.UNKNOWN, O = HelperWeave.OUTSIDE, S = HelperWeave.STATE,
        N = HelperWeave.NONE;
    private static final String HEARS_ALL = "{(?a|?b|?c|?d|?e|?f|?g|?h)}";
    private static final String SAYS_ALL = "{(!a|!b|!c|!d|!e|!f|!g|!h)}";

    /** Joins two talks, and compares the answer, how many were walked, and the whole row to the fault. */
    private static void join(String a, String b, int k, int answer, int walked, int... way) {
        HelperWeave x = Check.withTalks(a, b);
        String name = a + " with " + b + ", " + k;
        Check.due("10: join of " + name, x.join(0, 1, k), answer);
        Check.due("11: walked of " + name, x.walked(), walked);
        for (int i = 0; i < way.length; i++) {
            Check.due("12: trace(" + i + ") of " + name, x.trace(i), way[i]);
        }
        Check.due("12: trace behind the end of " + name, x.trace(way.length), N);
        Check.due("12: trace(-1) of " + name, x.trace(-1), N);
        Check.due("41: count(4)", x.count(4), k > 0 ? 1 : 0);
    }

    private static void atOnce() {
        join("?a!b", "!a?b", 0, 0, 3);
        join("0", "0", 0, 0, 1);
        join("?a", "?a", 0, 1, 1);
        join("?a", "0", 0, 1, 1);
        join("!a", "0", 0, 2, 1);
        join("0", "!a", 0, 2, 1);
        join("!a", "?b", 0, 2, 1);
        join("{?a}", "{?b}", 0, 0, 1);
        join("{?a!b}", "{!a?b}", 0, 0, 3);
        join("?a?b", "!a", 0, 1, 2, 1);
        join("!a!b", "?a", 0, 2, 2, 0);
        // passes go on behind an unheard pair
        join("(!a|!b)!c", "?a?c", 0, 2, 3);
        // said by a ahead of said by b, but an earlier message ahead of both
        join("(!a!c|?a!c)", "(?a|!a)", 0, 2, 3, 0);
        join("(!b!c|?a!c)", "(?b|!a)", 0, 2, 3, 1);
        // fewest passes, then the first row
        join("(!a!b!c|!d!e)", "(?a?b|?d)", 0, 2, 4, 6);
        join("(!b(!a!h|!c!h)|!a!d!h)", "(?b(?a|?c)|?a?d)", 0, 2, 6, 0, 6);
        join("?h!h", "!h", 0, 2, 2, 15);
    }

    private static void byQueues() {
        join("!a?b", "!b?a", 0, 2, 1);
        join("!a?b", "!b?a", 1, 0, 7);
        join("0", "0", 2, 0, 1);
        join("?a", "?a", 1, 1, 1);
        join("!a!b", "?b?a", 1, 1, 2, 0);
        join("!a!b", "?b?a", 2, 1, 3, 0, 1);
        // both may end, but not with something in a queue
        join("!a", "0", 1, 1, 2, 0);
        join("?a?b", "!a", 1, 1, 3, 8, 16);
        join("!a", "?a?b", 1, 1, 3, 0, 17);
        join("!a?b", "!b?a?c", 1, 1, 7, 0, 9, 16, 17);
        // two of a's words on their way: heard from the front
        join("!a!b", "?a?b", 2, 0, 6);
        join("!a!b", "?a?b", 1, 0, 5);
        join(SAYS_ALL, SAYS_ALL, 1, 1, 81, 0, 8);
        join(SAYS_ALL, HEARS_ALL, 0, 0, 9);
    }

    private static void spent() {
        String seven = "{(!a|!b|!c|!d|!e|!f|!g)}";
        join(seven, seven, 2, 1, 57 * 57, 0, 0, 8, 8);
        join(seven, SAYS_ALL, 2, 3, 4000);
        // walks of just 4000 places, and of 4001
        String a = "{(?g(?f|?h|!d!b|?b|!a|!h|?g)|!e|!c|?d|!g!b)}?c";
        HelperWeave x = Check.withTalks(a, "{(!c|!e|!g|?a|!f)}",
            "{(?f!h|?a|?e(!e?g|!a|!c|!d)|!h|!d|?g|!c(?d|!c|?g))}", "{(!g|!b|!d{(?g|?c!e|?h)}|?f|!h)}");
        Check.due("10: 4000", x.join(0, 1, 2), 1);
        Check.due("11: 4000", x.walked(), 4000);
        Check.due("12: the fault is told", x.trace(0) >= 0 ? 1 : 0, 1);
        Check.due("10: 4001", x.join(2, 3, 2), 3);
        Check.due("11: 4001", x.walked(), 4000);
        Check.due("12: no fault is told", x.trace(0), N);
        Check.due("10: behind it", x.join(2, 2, 0), 2);
        Check.due("10: behind it, by queues", x.join(0, 1, 2), 1);
        Check.due("11: behind it, by queues", x.walked(), 4000);
    }

    /** A join knows nothing of the one before. */
    private static void joinsAnew() {
        HelperWeave x = Check.withTalks("!a!b", "?a", "?a?b");
        Check.due("10: a fault", x.join(0, 1, 0), 2);
        Check.due("12: a fault", x.trace(0), 0);
        Check.due("10: none", x.join(0, 2, 0), 0);
        Check.due("12: none", x.trace(0), N);
        Check.due("10: a fault by queues", x.join(0, 1, 1), 1);
        Check.due("12: a fault by queues", x.trace(2), 1);
        Check.due("10: none by queues", x.join(0, 2, 1), 0);
        Check.due("12: none by queues", x.trace(0), N);
    }

    private static void joinRefusals() {
        HelperWeave x = Check.withTalks("!a", "?a?b");
        Check.due("11: ahead of any", x.walked(), 0);
        Check.due("12: ahead of any", x.trace(0), N);
        Check.due("10: a", x.join(2, 0, 3), U);
        Check.due("10: b", x.join(0, -1, 3), U);
        Check.due("10: k", x.join(0, 1, 3), O);
        Check.due("10: k below", x.join(0, 1, -1), O);
        Check.due("10: refused ones do not count", x.count(4), 0);
        Check.due("11: refused ones walk nothing", x.walked(), 0);
        for (int i = 0; i < 20; i++) {
            Check.due("10: by queues", x.join(0, 1, 1 + i % 2), 1);
        }
        Check.due("10: the 21st", x.join(0, 0, 1), S);
        Check.due("10: the 21st, of 2", x.join(0, 0, 2), S);
        Check.due("10: unknown ahead of state", x.join(0, 2, 1), U);
        Check.due("10: outside ahead of state", x.join(0, 1, 4), O);
        Check.due("11: as it was", x.walked(), 3);
        Check.due("12: as it was", x.trace(1), 17);
        Check.due("41: count(4)", x.count(4), 20);
        Check.due("10: at once still", x.join(0, 1, 0), 1);
        Check.due("11: anew", x.walked(), 2);
        Check.due("12: anew", x.trace(0), 0);
        Check.due("12: no old ones", x.trace(1), N);
        Check.due("10: a talk with itself", x.join(1, 1, 0), 1);
    }

    private static void fit(String one, String other, int want) {
        HelperWeave x = Check.withTalks(one, other);
        Check.due("13: " + one + " for " + other, x.fit(0, 1), want);
    }

    private static void fits() {
        fit("0", "0", 1);
        fit("?a!b", "?a!b", 1);
        fit("(?a|?b)", "?a", 1);
        fit("?a", "(?a|?b)", 0);
        fit("!a", "(!a|!b)", 1);
        fit("(!a|!b)", "!a", 0);
        fit("?a", "(?a|!b)", 0);
        fit("(?a|!b)", "?a", 0);
        fit("(0|?a)", "?a", 0);
        fit("?a", "(0|?a)", 0);
        fit("?a", "0", 0);
        fit("{?a}", "0", 1);
        fit("0", "{?a}", 0);
        fit("(?a!b|?c)", "?a!c", 0);
        fit("(?a!b|?c)", "?a(!b|!c)", 1);
        // what is heard besides may lead anywhere
        fit("(?a|?b!c)", "?a", 1);
        fit("{?a!b}?c", "{?a!b?a!b}?c", 1);
        fit("{?a!b?a!b}?c", "{?a!b}?c", 0);
        HelperWeave x = Check.withTalks("?a");
        Check.due("13: x", x.fit(1, 0), U);
        Check.due("13: y", x.fit(0, 1), U);
        Check.due("13: x below", x.fit(-1, 0), U);
    }

    private static void swaps() {
        HelperWeave x = Check.withTalks("?a?b?a", "?a", "!c");
        Check.due("14: the third", x.swap(0, 1, 0), 2);
        Check.due("14: the last", x.swap(0, 1, 1), 3);
        Check.due("14: the other way", x.swap(1, 0, 0), N);
        Check.due("14: the other way, later", x.swap(1, 0, 2), 0);
        Check.due("14: nothing is said", x.swap(0, 2, 0), N);
        Check.due("14: the least", x.swap(0, 0, 0), 0);
        Check.due("14: x", x.swap(3, 0, 9), U);
        Check.due("14: y", x.swap(0, 3, 0), U);
        Check.due("14: q", x.swap(0, 1, 2), U);
        Check.due("14: q below", x.swap(0, 1, -1), U);
    }

    /** Compares how many adapters there are, and what they make of each message of a. */
    private static void adapt(String a, String b, String messages, String... made) {
        HelperWeave x = Check.withTalks(a, b);
        Check.due("15: adapters of " + a + " to " + b, x.adapters(0, 1), made.length);
        for (int i = 0; i < made.length; i++) {
            for (int k = 0; k < messages.length(); k++) {
                Check.due("16: adapter " + i + " of " + a + " to " + b, x.adapter(0, 1, i, messages.charAt(k) - 'a'),
                    made[i].charAt(k) - 'a');
            }
        }
        Check.due("16: behind the last", x.adapter(0, 1, made.length, 0), N);
        Check.due("16: i below", x.adapter(0, 1, -1, 0), N);
        Check.due("16: no such message", x.adapter(0, 1, 0, 7), N);
        Check.due("41: count(5)", x.count(5), 4 + made.length * messages.length());
    }

    private static void adapters() {
        adapt("!a?b", "?c!d", "ab", "cd");
        adapt("!a", "(?a|?c)", "a", "a", "c");
        adapt("!b!a", "(?a|?c)(?d|?b)", "ab", "ba", "bc", "da", "dc");
        adapt("!a!b", "?c?c", "ab");
        adapt("!a!a", "?c?c", "a", "c");
        adapt("?a!a", "!b?b", "a", "b");
        adapt("?a!a", "!b?c", "a");
        adapt("0", "0", "", "");
        adapt("0", "?a", "");
        adapt("?g", "(!a|!b)", "g");
        adapt("(?f|?g)", "(!a|!b)", "fg", "ab", "ba");
        // what b never says may be anything
        HelperWeave x = Check.withTalks("(?f|?g)", "!h");
        Check.due("15: one of them is h", x.adapters(0, 1), 14);
        Check.due("16: f becomes a", x.adapter(0, 1, 0, 5), 0);
        Check.due("16: then g is h", x.adapter(0, 1, 0, 6), 7);
        Check.due("16: f becomes h", x.adapter(0, 1, 7, 5), 7);
        Check.due("16: then g is a", x.adapter(0, 1, 7, 6), 0);
    }

    private static void allAdapters() {
        HelperWeave x = Check.withTalks("!a!b!c!d!e", HEARS_ALL, "!a!b!c!d!e!f");
        Check.due("10: ahead of it", x.join(0, 2, 0), 2);
        Check.due("15: all", x.adapters(0, 1), 6720);
        for (int m = 0; m < 5; m++) {
            Check.due("16: the first", x.adapter(0, 1, 0, m), m);
            Check.due("16: the last", x.adapter(0, 1, 6719, m), 7 - m);
        }
        Check.due("16: none behind it", x.adapter(0, 1, 6720, 0), N);
        Check.due("15: six messages", x.adapters(2, 1), O);
        Check.due("16: six messages", x.adapter(2, 1, 0, 0), O);
        Check.due("15: b may have more", x.adapters(0, 2), 0);
        Check.due("16: not those of the pair before", x.adapter(0, 2, 0, 0), N);
        Check.due("11: walked() is of join() alone", x.walked(), 1);
    }

    private static void adaptersAnew() {
        HelperWeave x = Check.withTalks("!a!b", "?c?d", "!e", "?f");
        Check.due("15: the first", x.adapters(0, 1), 1);
        Check.due("15: another a", x.adapters(2, 1), 0);
        Check.due("15: another b", x.adapters(2, 3), 1);
        Check.due("16: another b", x.adapter(2, 3, 0, 4), 5);
        Check.due("16: the first again", x.adapter(0, 1, 0, 1), 3);
        Check.due("16: not a message of the first", x.adapter(0, 1, 0, 4), N);
        Check.due("15: the other way", x.adapters(1, 0), 1);
        Check.due("16: the other way", x.adapter(1, 0, 0, 3), 1);
    }

    private static void adapterRefusals() {
        HelperWeave x = Check.withTalks("!a", "?b", "!a!b!c!d!e!f");
        Check.due("15: a", x.adapters(3, 0), U);
        Check.due("15: b", x.adapters(2, 3), U);
        Check.due("16: a", x.adapter(-1, 0, 0, 8), U);
        Check.due("16: b", x.adapter(0, 3, 0, 8), U);
        Check.due("16: m", x.adapter(0, 1, 0, 8), O);
        Check.due("16: m below", x.adapter(0, 1, 0, -1), O);
        Check.due("41: refused ones do not count", x.count(5), 0);
        for (int i = 0; i < 10; i++) {
            Check.due("15: done", x.adapters(0, 1), 1);
            Check.due("16: done", x.adapter(0, 1, 0, 0), 1);
        }
        Check.due("15: the 21st", x.adapters(0, 1), S);
        Check.due("16: the 21st", x.adapter(0, 1, 0, 0), S);
        Check.due("15: unknown ahead of state", x.adapters(0, 3), U);
        Check.due("15: outside ahead of state", x.adapters(2, 1), O);
        Check.due("16: outside ahead of state", x.adapter(0, 1, 0, 8), O);
        Check.due("41: count(5)", x.count(5), 20);
    }

    public static void main(String[] args) {
        atOnce();
        byQueues();
        spent();
        joinsAnew();
        joinRefusals();
        fits();
        swaps();
        adapters();
        allAdapters();
        adaptersAnew();
        adapterRefusals();
        Check.finish("JoinTest");
    }
}
