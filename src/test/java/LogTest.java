/** Promises 32 to 40: the log, as all worlds there may be. */
final class LogTest {
    private static final int U = HelperWeave.UNKNOWN, O = HelperWeave.OUTSIDE, S = HelperWeave.STATE,
        F = HelperWeave.FULL, N = HelperWeave.NONE;
    private static final int DONE = 0, FAILED = 1, LOST = 2;

    private static long[] told(HelperWeave x) {
        long[] worlds = new long[x.worlds(x.count(3))];
        for (int i = 0; i < worlds.length; i++) {
            worlds[i] = x.world(i);
        }
        return worlds;
    }

    private static void begins() {
        HelperWeave x = new HelperWeave();
        x.helper(0, 1, 0);
        Check.due("32: facts", x.begin(4095), 1);
        Check.dueAll("32: one world", told(x), 4095);
        x.call(0, DONE);
        Check.due("32: outside", x.begin(4096), O);
        Check.due("32: outside, below", x.begin(-1), O);
        Check.due("32: refused", x.count(3), 1);
        Check.due("32: anew", x.begin(64), 1);
        Check.due("32: without events", x.count(3), 0);
        Check.dueAll("32: one world", told(x), 64);
        for (int f = 0; f < 12; f++) {
            x.begin(1 << f);
            Check.dueAll("32: fact " + f, told(x), 1 << f);
            Check.due("37: fact " + f, x.held(0), 1 << f);
        }
    }

    private static void calls() {
        // 0 needs 0, gives 1, takes 0; 1 gives 2 and 11; 2 gives and takes 0
        HelperWeave x = new HelperWeave();
        x.helper(1, 2, 1);
        x.helper(0, 4 + 2048, 0);
        x.helper(0, 1, 1);
        x.begin(1);
        Check.due("33: done", x.call(0, DONE), 1);
        Check.dueAll("33: done", told(x), 2);
        Check.due("33: failed", x.call(1, FAILED), 2);
        Check.dueAll("33: failed", told(x), 2);
        Check.due("33: failed, where it is not held", x.call(0, FAILED), 3);
        Check.dueAll("33: failed, where it is not held", told(x), 2);
        Check.due("33: lost, where it is not held", x.call(0, LOST), 4);
        Check.dueAll("33: lost, where it is not held", told(x), 2);
        Check.due("33: lost", x.call(1, LOST), 5);
        Check.dueAll("33: lost", told(x), 2, 2054);
        x.call(2, LOST);
        Check.dueAll("33: lost again", told(x), 2, 3, 2054, 2055);
        x.call(0, LOST);
        Check.dueAll("33: lost, in some", told(x), 2, 3, 2054, 2055);
        x.call(0, DONE);
        Check.dueAll("33: out where it is not held", told(x), 2, 2054);
        x.call(0, DONE);
        Check.dueAll("33: out in all", told(x));
        x.strike();
        x.call(2, DONE);
        Check.dueAll("33: gives what it takes", told(x), 3, 2055);
        Check.due("33: s", x.call(3, 3), U);
        Check.due("33: s below", x.call(-1, 0), U);
        Check.due("33: how", x.call(0, 3), O);
        Check.due("33: how below", x.call(0, -1), O);
        Check.due("33: refused", x.count(3), 9);
    }

    /** Trust, levels, quotas and prices are the row's alone. */
    private static void callsAreNotRows() {
        HelperWeave x = new HelperWeave();
        x.helper(1, 2, 0);
        x.set(0, 2, 1);
        x.set(0, 3, 0);
        x.level(0, 3);
        x.begin(1);
        x.call(0, DONE);
        x.call(0, DONE);
        Check.dueAll("33: not by the row's rules", told(x), 3);
        Check.due("40: not by the row's rules", x.again(0), 1);
    }

    private static void everyFact() {
        for (int f = 0; f < 12; f++) {
            HelperWeave x = new HelperWeave();
            x.helper(0, 1 << f, 0);
            x.helper(1 << f, 0, 1 << f);
            x.helper(0, 0, 1 << f);
            x.begin(4095 - (1 << f));
            x.call(0, LOST);
            Check.dueAll("33: may have fact " + f, told(x), 4095 - (1 << f), 4095);
            Check.due("34: held", x.see(f, true), 2);
            Check.dueAll("34: held " + f, told(x), 4095);
            x.strike();
            x.see(f, false);
            Check.dueAll("34: lacked " + f, told(x), 4095 - (1 << f));
            x.strike();
            x.call(1, DONE);
            Check.dueAll("33: had fact " + f, told(x), 4095 - (1 << f));
            x.strike();
            x.call(2, DONE);
            Check.dueAll("33: none has fact " + f, told(x), 4095 - (1 << f));
            x.strike();
            x.call(0, DONE);
            Check.dueAll("33: all have fact " + f, told(x), 4095);
        }
    }

    private static void sights() {
        HelperWeave x = new HelperWeave();
        Check.due("34: f", x.see(12, true), U);
        Check.due("34: f below", x.see(-1, false), U);
        Check.due("34: so", x.see(0, false), 1);
        Check.due("34: not so", x.see(0, true), 2);
        Check.due("36: none", x.worlds(2), 0);
        Check.due("35: struck", x.strike(), 1);
        Check.due("36: one", x.worlds(1), 1);
        Check.due("35: struck", x.strike(), 0);
        Check.due("35: none", x.strike(), S);
        Check.due("35: refused", x.count(3), 0);
    }

    private static void full() {
        HelperWeave x = new HelperWeave();
        x.helper(0, 1, 0);
        for (int t = 1; t <= 30; t++) {
            Check.due("33: event", t % 2 == 0 ? x.call(0, LOST) : x.see(1, false), t);
        }
        Check.due("33: full", x.call(0, 0), F);
        Check.due("34: full", x.see(0, true), F);
        Check.due("33: unknown ahead of full", x.call(1, 0), U);
        Check.due("33: outside ahead of full", x.call(0, 3), O);
        Check.due("34: unknown ahead of full", x.see(12, true), U);
        Check.due("41: events", x.count(3), 30);
        Check.due("35: struck", x.strike(), 29);
        Check.due("33: again", x.call(0, 0), 30);
    }

    private static void told() {
        HelperWeave x = new HelperWeave();
        for (int f = 0; f < 8; f++) {
            x.helper(0, f == 0 ? 1 + 512 : 1 << f, 0);
            x.call(f, LOST);
            Check.due("36: doubled", x.worlds(f + 1), 2 << f);
        }
        Check.due("36: at first", x.worlds(0), 1);
        Check.due("36: t", x.worlds(9), U);
        Check.due("36: t below", x.worlds(-1), U);
        Check.due("38: the first", x.world(0), 0);
        Check.due("38: the second", x.world(1), 2);
        Check.due("38: the middle", x.world(127), 254);
        Check.due("38: by number", x.world(128), 513);
        Check.due("38: the last", x.world(255), 767);
        Check.due("38: behind it", x.world(256), N);
        Check.due("38: below", x.world(-1), N);
        Check.due("38: far below", x.world(Integer.MIN_VALUE), N);
        Check.due("37: in all", x.held(0), 0);
        Check.due("37: in some", x.held(1), 767);
        x.see(9, true);
        Check.due("37: in all", x.held(0), 513);
        Check.due("37: side", x.held(2), O);
        Check.due("37: side below", x.held(-1), O);
        x.see(0, false);
        Check.due("37: no world", x.held(1), S);
        Check.due("37: outside ahead of state", x.held(2), O);
        Check.due("38: no world", x.world(0), N);
    }

    private static void breaks() {
        HelperWeave x = new HelperWeave();
        x.helper(1, 2, 0);
        Check.due("39: not", x.broken(), 0);
        x.call(0, LOST);
        Check.due("39: not", x.broken(), 0);
        x.call(0, DONE);
        Check.due("39: at the second", x.broken(), 2);
        x.call(0, FAILED);
        x.see(0, false);
        Check.due("39: still at the second", x.broken(), 2);
        x.strike();
        x.strike();
        x.strike();
        Check.due("39: no more", x.broken(), 0);
        x.see(3, true);
        x.begin(8);
        Check.due("39: begun anew", x.broken(), 0);
    }

    private static void againAndAgain() {
        // 0 needs 0, gives 1; 1 gives 1, takes 1; 2 takes 2; 3 needs 0, 1, takes 0
        HelperWeave x = new HelperWeave();
        x.helper(1, 2, 0);
        x.helper(0, 2, 2);
        x.helper(0, 0, 4);
        x.helper(3, 0, 1);
        x.begin(1);
        long[] due = {0, 0, 1, 0};
        Check.dueAll("40: at first", agains(x), due);
        x.call(0, LOST);
        Check.dueAll("40: in all worlds", agains(x), 0, 0, 1, 0);
        x.see(1, true);
        Check.dueAll("40: comes to the same", agains(x), 1, 1, 1, 0);
        x.begin(6);
        Check.dueAll("40: what it needs is not held", agains(x), 0, 1, 0, 0);
        Check.due("40: s", x.again(4), U);
        Check.due("40: s below", x.again(-1), U);
        x.see(0, true);
        Check.due("40: no world", x.again(1), S);
        Check.due("40: unknown ahead of state", x.again(4), U);
    }

    private static long[] agains(HelperWeave x) {
        long[] told = new long[x.count(2)];
        for (int s = 0; s < told.length; s++) {
            told[s] = x.again(s);
        }
        return told;
    }

    public static void main(String[] args) {
        begins();
        calls();
        callsAreNotRows();
        everyFact();
        sights();
        full();
        told();
        breaks();
        againAndAgain();
        Check.finish("LogTest");
    }
}
