import java.util.ArrayList;
import java.util.List;

/** What the tests of single sentences share. */
abstract class Edges {
    static final int U = HelperWeave.UNKNOWN, O = HelperWeave.OUTSIDE, S = HelperWeave.STATE, F = HelperWeave.FULL,
        N = HelperWeave.NONE;
    static final int MIN = Integer.MIN_VALUE, MAX = Integer.MAX_VALUE;
    static final int DONE = 0, FAILED = 1, LOST = 2;
    static final int PRICE = 0, FAILS = 1, QUOTA = 2, TRUST = 3, UNDO = 4;
    static final String HEARS_ALL = "{(?a|?b|?c|?d|?e|?f|?g|?h)}";
    static final String SAYS_ALL = "{(!a|!b|!c|!d|!e|!f|!g|!h)}";

    static void says(String section, String words) {
        Doc.says(section, words);
    }

    static void due(String call, long got, long want) {
        Check.due(call, got, want);
    }

    static void dueRow(String call, long[] got, long... want) {
        Check.dueAll(call, got, want);
    }

    static void isTrue(String what, boolean is) {
        Check.due(what, is ? 1 : 0, 1);
    }

    /** A page with this text on it, and nothing else. */
    static HelperWeave pageOf(String text) {
        HelperWeave x = new HelperWeave();
        Check.write(x, text);
        return x;
    }

    static int talk(HelperWeave x, String text) {
        return Check.talk(x, text);
    }

    /** What talk() answers to a text on a new object. */
    static void reads(String text, int want) {
        due("talk() of '" + text + "'", pageOf(text).talk(), want);
    }

    static void isGood(String text, int want) {
        due("good() of '" + text + "'", pageOf(text).good(), want);
    }

    static HelperWeave withTalks(String... texts) {
        return Check.withTalks(texts);
    }

    /** What next() tells from a state on, by sign and message, as a text such as "?a1!b2". */
    static String nexts(HelperWeave x, int t, int state) {
        StringBuilder told = new StringBuilder();
        for (int kind = 0; kind < 16; kind++) {
            int next = x.next(t, state, kind / 8, kind % 8);
            if (next != N) {
                told.append(kind < 8 ? '?' : '!').append((char) ('a' + kind % 8)).append(next);
            }
        }
        return told.toString();
    }

    /** Compares next() of all states of a talk; then ends(), as a text of 0 and 1. */
    static void isMachine(String text, String ends, String... next) {
        HelperWeave x = withTalks(text);
        due("steps(0) of " + text, x.steps(0), next.length - 1);
        StringBuilder told = new StringBuilder();
        for (int state = 0; state < next.length; state++) {
            String got = nexts(x, 0, state);
            isTrue("next() of " + text + " from " + state + ": " + got + ", not " + next[state], got.equals(next[state]));
            told.append(x.ends(0, state));
        }
        isTrue("ends() of " + text + ": " + told + ", not " + ends, told.toString().equals(ends));
    }

    /** An object with helpers of these needs, gives and takes. */
    static HelperWeave withHelpers(int... sets) {
        HelperWeave x = new HelperWeave();
        for (int i = 0; i + 2 < sets.length; i += 3) {
            if (x.helper(sets[i], sets[i + 1], sets[i + 2]) != i / 3) {
                throw new IllegalStateException("no helper");
            }
        }
        return x;
    }

    static void row(HelperWeave x, int... helpers) {
        x.empty();
        for (int s : helpers) {
            x.put(s);
        }
    }

    static long[] rowOf(HelperWeave x) {
        long[] places = new long[x.count(7)];
        for (int i = 0; i < places.length; i++) {
            places[i] = x.at(i);
        }
        return places;
    }

    static long[] worldsOf(HelperWeave x) {
        long[] worlds = new long[x.worlds(x.count(3))];
        for (int i = 0; i < worlds.length; i++) {
            worlds[i] = x.world(i);
        }
        return worlds;
    }

    static long[] traceOf(HelperWeave x) {
        List<Integer> acts = new ArrayList<>();
        for (int i = 0; i < 100 && x.trace(i) != N; i++) {
            acts.add(x.trace(i));
        }
        return acts.stream().mapToLong(act -> act).toArray();
    }

    /** Joins two talks: the answer, how many were walked, and the whole row to the fault. */
    static void joins(String a, String b, int k, int answer, int walked, long... way) {
        HelperWeave x = withTalks(a, b);
        String name = "of " + a + " with " + b + ", " + k;
        due("join() " + name, x.join(0, 1, k), answer);
        due("walked() " + name, x.walked(), walked);
        dueRow("trace() " + name, traceOf(x), way);
    }
}
