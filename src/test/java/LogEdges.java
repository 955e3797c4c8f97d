/** Sentences of the log, and of promises 32 to 40. */
final class LogEdges extends Edges {
    static void all() {
        events();
        callsDone();
        callsFailedAndLost();
        sights();
        breaks();
        beginTold();
        callTold();
        seeTold();
        strikeTold();
        worldsTold();
        heldTold();
        worldTold();
        brokenTold();
        againTold();
    }

    /** Helper f gives fact f alone, for the facts 0 to 7. */
    private static HelperWeave withGivers() {
        HelperWeave x = new HelperWeave();
        for (int f = 0; f < 8; f++) {
            x.helper(0, 1 << f, 0);
        }
        return x;
    }

    private static void events() {
        says("Terms", "======== 3 THE LOG has EVENTS (30 at most), in order, from FACTS at first: a WORLD is a set of FACTS "
            + "that may be held.");
        HelperWeave x = withHelpers(0, 1, 0, 1, 2, 1);
        x.begin(4);
        for (int t = 1; t <= 30; t++) {
            due("EVENT " + t, t % 3 == 0 ? x.see(2, true) : x.call(t % 3 - 1, DONE), t);
        }
        due("a CALL more", x.call(0, DONE), F);
        due("a sight more", x.see(2, true), F);
        dueRow("the WORLD at last", worldsOf(x), 6);
        HelperWeave y = withHelpers(0, 1, 0, 0, 0, 1);
        y.call(0, DONE);
        y.call(1, DONE);
        dueRow("in order", worldsOf(y), 0);
        y.begin(0);
        y.call(1, DONE);
        y.call(0, DONE);
        dueRow("in the other order", worldsOf(y), 1);
        y.begin(4094);
        dueRow("from FACTS at first", worldsOf(y), 4094);
    }

    private static void callsDone() {
        says("Terms", "CALL of a HELPER, DONE: WORLDS where what it NEEDS is not held are out; the others change as it does;");
        for (int f = 0; f < 12; f++) {
            int bit = 1 << f;
            // gives it, needs it, takes it, gives what it takes
            HelperWeave x = withHelpers(0, bit, 0, bit, 0, 0, 0, 0, bit, 0, bit, bit);
            x.begin(4095 - bit);
            x.call(0, LOST);
            dueRow("with and without " + f, worldsOf(x), 4095 - bit, 4095);
            x.call(1, DONE);
            dueRow("out where it is not held, " + f, worldsOf(x), 4095);
            x.strike();
            x.call(0, DONE);
            dueRow("held in all then, " + f, worldsOf(x), 4095);
            x.strike();
            x.call(2, DONE);
            dueRow("gone in all then, " + f, worldsOf(x), 4095 - bit);
            x.strike();
            x.call(3, DONE);
            dueRow("taken and given, " + f, worldsOf(x), 4095);
        }
        HelperWeave x = withHelpers(3, 2052, 1, 0, 1, 0, 0, 2, 0);
        x.call(1, LOST);
        x.call(2, LOST);
        dueRow("four", worldsOf(x), 0, 1, 2, 3);
        x.call(0, DONE);
        dueRow("out where one of two is not held", worldsOf(x), 2054);
        x.call(0, DONE);
        dueRow("out in all", worldsOf(x));
        x.call(1, DONE);
        dueRow("nothing comes of nothing", worldsOf(x));
        HelperWeave y = withHelpers(1, 2, 0);
        y.set(0, TRUST, 0);
        y.set(0, QUOTA, 1);
        y.set(0, FAILS, 9);
        y.level(0, 3);
        y.begin(1);
        y.call(0, DONE);
        y.call(0, DONE);
        dueRow("neither TRUST nor QUOTA is asked for", worldsOf(y), 3);
    }

    private static void callsFailedAndLost() {
        says("Terms", "FAILED: nothing changes;");
        HelperWeave x = withHelpers(0, 2, 1, 2048, 1, 0);
        x.begin(1);
        x.call(0, FAILED);
        dueRow("where it is held", worldsOf(x), 1);
        x.call(1, FAILED);
        dueRow("where it is not held", worldsOf(x), 1);
        due("they are EVENTS", x.count(3), 2);
        says("Terms", "LOST: where it NEEDS no more than is held, both may be; the others stay.");
        x.call(0, LOST);
        dueRow("both may be", worldsOf(x), 1, 2);
        x.call(1, LOST);
        dueRow("the others stay", worldsOf(x), 1, 2);
        x.call(0, LOST);
        dueRow("of both", worldsOf(x), 1, 2);
        HelperWeave y = withHelpers(0, 1, 0, 1, 2048, 1);
        y.call(0, LOST);
        y.call(1, LOST);
        dueRow("in one of two", worldsOf(y), 0, 1, 2048);
        HelperWeave z = withGivers();
        for (int f = 0; f < 8; f++) {
            z.call(f, LOST);
            due("twice as many", z.worlds(f + 1), 2 << f);
        }
        z.see(0, true);
        z.see(0, false);
        z.call(0, LOST);
        dueRow("nothing comes of nothing", worldsOf(z));
    }

    private static void sights() {
        says("Terms", "SEEN a FACT, or its lack: WORLDS where it is not so are out.");
        for (int f = 0; f < 12; f++) {
            HelperWeave x = withHelpers(0, 1 << f, 0);
            x.call(0, LOST);
            x.see(f, true);
            dueRow("held " + f, worldsOf(x), 1 << f);
            x.strike();
            x.see(f, false);
            dueRow("lacked " + f, worldsOf(x), 0);
            x.see(f, false);
            dueRow("once more " + f, worldsOf(x), 0);
            x.see(f, true);
            dueRow("neither " + f, worldsOf(x));
        }
    }

    private static void breaks() {
        says("Terms", "BROKEN at the first EVENT behind which no WORLD is left.");
        HelperWeave x = withHelpers(0, 1, 0);
        x.call(0, LOST);
        x.see(0, false);
        due("one is left", x.broken(), 0);
        x.see(0, true);
        due("none is left", x.broken(), 3);
        x.call(0, DONE);
        x.see(0, true);
        due("the first of them", x.broken(), 3);
    }

    private static void beginTold() {
        says("32", "`int begin(int facts)`: THE LOG begins with FACTS, without EVENTS: 1.");
        HelperWeave x = withHelpers(0, 1, 0);
        for (int facts : new int[] {0, 1, 2048, 4095}) {
            x.call(0, LOST);
            x.see(11, true);
            due("begin(" + facts + ")", x.begin(facts), 1);
            due("without EVENTS", x.count(3), 0);
            dueRow("with FACTS", worldsOf(x), facts);
            due("at first", x.worlds(0), 1);
            due("not BROKEN", x.broken(), 0);
            due("nothing to strike", x.strike(), S);
        }
        for (int t = 1; t <= 30; t++) {
            x.see(0, true);
        }
        due("of a full one", x.begin(2), 1);
        due("EVENTS come again", x.call(0, DONE), 1);
        says("32", "OUTSIDE.");
        for (int facts : new int[] {-1, 4096, MIN, MAX}) {
            due("begin(" + facts + ")", x.begin(facts), O);
        }
        due("EVENTS stay", x.count(3), 1);
        dueRow("WORLDS stay", worldsOf(x), 3);
    }

    private static void callTold() {
        says("33", "`int call(int s, int how)`: A CALL: how = 0 DONE, 1 FAILED, 2 LOST: how many EVENTS.");
        HelperWeave x = withHelpers(0, 1, 0);
        due("FAILED", x.call(0, 1), 1);
        dueRow("FAILED", worldsOf(x), 0);
        due("LOST", x.call(0, 2), 2);
        dueRow("LOST", worldsOf(x), 0, 1);
        due("DONE", x.call(0, 0), 3);
        dueRow("DONE", worldsOf(x), 1);
        says("33", "UNKNOWN: s;");
        for (int s : new int[] {-1, 1, 8, MIN, MAX}) {
            due("s " + s, x.call(s, 0), U);
            due("s " + s + ", ahead of OUTSIDE", x.call(s, 3), U);
        }
        says("33", "OUTSIDE;");
        for (int how : new int[] {-1, 3, MIN, MAX}) {
            due("how " + how, x.call(0, how), O);
        }
        due("EVENTS stay", x.count(3), 3);
        says("33", "FULL.");
        for (int t = 4; t <= 30; t++) {
            due("EVENT " + t, x.call(0, t % 3), t);
        }
        for (int how = 0; how < 3; how++) {
            due("a 31st", x.call(0, how), F);
        }
        due("UNKNOWN ahead of it", x.call(1, 0), U);
        due("OUTSIDE ahead of it", x.call(0, 3), O);
        due("how many", x.count(3), 30);
        x.strike();
        due("the 30th again", x.call(0, 0), 30);
    }

    private static void seeTold() {
        says("34", "`int see(int f, boolean is)`: A FACT is SEEN, or its lack (is false): how many EVENTS.");
        HelperWeave x = new HelperWeave();
        x.begin(2048);
        due("SEEN", x.see(11, true), 1);
        due("its lack", x.see(0, false), 2);
        dueRow("both are so", worldsOf(x), 2048);
        due("not so", x.see(0, true), 3);
        dueRow("not so", worldsOf(x));
        x.strike();
        due("its lack is not so", x.see(11, false), 3);
        dueRow("its lack is not so", worldsOf(x));
        says("34", "UNKNOWN;");
        for (int f : new int[] {-1, 12, MIN, MAX}) {
            due("f " + f, x.see(f, true), U);
            due("f " + f + ", its lack", x.see(f, false), U);
        }
        due("EVENTS stay", x.count(3), 3);
        says("34", "FULL.");
        for (int t = 4; t <= 30; t++) {
            due("EVENT " + t, x.see(t % 12, t % 2 == 0), t);
        }
        due("a 31st", x.see(0, true), F);
        due("a 31st, a lack", x.see(0, false), F);
        due("UNKNOWN ahead of it", x.see(12, true), U);
        due("UNKNOWN ahead of it", x.see(-1, true), U);
        due("how many", x.count(3), 30);
    }

    private static void strikeTold() {
        says("35", "`int strike()`: The latest EVENT is gone: how many are left.");
        HelperWeave x = withGivers();
        for (int t = 0; t < 30; t++) {
            x.call(t % 8, DONE);
        }
        for (int left = 29; left >= 0; left--) {
            due("left", x.strike(), left);
            dueRow("as it was behind " + left, worldsOf(x), left >= 8 ? 255 : (1 << left) - 1);
        }
        says("35", "STATE: there is none.");
        due("of none", x.strike(), S);
        due("of none again", x.strike(), S);
        due("how many", x.count(3), 0);
        dueRow("as it was at first", worldsOf(x), 0);
        due("of a new object", new HelperWeave().strike(), S);
    }

    private static void worldsTold() {
        says("36", "`int worlds(int t)`: How many WORLDS there are behind EVENT t (0: at first).");
        HelperWeave x = withGivers();
        for (int f = 0; f < 8; f++) {
            x.call(f, LOST);
        }
        x.see(0, true);
        x.see(0, false);
        for (int t = 0; t <= 8; t++) {
            due("worlds(" + t + ")", x.worlds(t), 1 << t);
        }
        due("worlds(9)", x.worlds(9), 128);
        due("worlds(10)", x.worlds(10), 0);
        says("36", "UNKNOWN: t is not 0 to how many EVENTS.");
        for (int t : new int[] {-1, 11, 30, 31, MIN, MAX}) {
            due("worlds(" + t + ")", x.worlds(t), U);
        }
        x.strike();
        due("behind one that is gone", x.worlds(10), U);
        due("of no EVENTS", new HelperWeave().worlds(1), U);
        for (int t = 10; t <= 30; t++) {
            x.see(0, true);
        }
        due("worlds(30)", x.worlds(30), 128);
        due("worlds(31)", x.worlds(31), U);
    }

    private static void heldTold() {
        says("37", "`int held(int side)`: FACTS that are held in all WORLDS at the end (side 0), in some (1).");
        for (int f = 0; f < 12; f++) {
            HelperWeave x = withHelpers(0, 1 << f, 0);
            x.begin(4095 - (1 << f));
            due("in all, without " + f, x.held(0), 4095 - (1 << f));
            due("in some, without " + f, x.held(1), 4095 - (1 << f));
            x.call(0, LOST);
            due("in all, may be with " + f, x.held(0), 4095 - (1 << f));
            due("in some, may be with " + f, x.held(1), 4095);
            x.call(0, DONE);
            due("in all, with " + f, x.held(0), 4095);
        }
        HelperWeave x = withHelpers(0, 1, 0, 1, 0, 1);
        due("none in all", x.held(0), 0);
        due("none in some", x.held(1), 0);
        x.call(0, DONE);
        x.call(1, DONE);
        due("at the end", x.held(1), 0);
        says("37", "OUTSIDE;");
        for (int side : new int[] {-1, 2, MIN, MAX}) {
            due("side " + side, x.held(side), O);
        }
        x.see(0, true);
        due("ahead of STATE", x.held(2), O);
        due("ahead of STATE", x.held(-1), O);
        says("37", "STATE: there is no WORLD.");
        due("in all", x.held(0), S);
        due("in some", x.held(1), S);
        x.strike();
        due("there is one again", x.held(0), 0);
    }

    private static void worldTold() {
        says("38", "`int world(int i)`: The i-th WORLD at the end, by its number;");
        HelperWeave x = withHelpers(0, 1, 0, 0, 32, 0, 0, 64, 0, 0, 2048, 0);
        for (int s = 3; s >= 0; s--) {
            x.call(s, LOST);
        }
        dueRow("sixteen", worldsOf(x), 0, 1, 32, 33, 64, 65, 96, 97, 2048, 2049, 2080, 2081, 2112, 2113, 2144, 2145);
        x.begin(4095);
        due("all FACTS", x.world(0), 4095);
        HelperWeave y = withGivers();
        for (int f = 0; f < 8; f++) {
            y.call(f, LOST);
        }
        for (int i = 0; i < 256; i++) {
            due("world(" + i + ")", y.world(i), i);
        }
        says("38", "NONE.");
        for (int i : new int[] {-1, 256, 4095, 4096, MIN, MAX}) {
            due("world(" + i + ")", y.world(i), N);
        }
        due("behind the one", x.world(1), N);
        x.see(0, false);
        due("of none", x.world(0), N);
    }

    private static void brokenTold() {
        says("39", "`int broken()`: The EVENT (from 1) at which THE LOG is BROKEN;");
        HelperWeave x = withHelpers(1, 0, 0);
        x.call(0, DONE);
        due("at the first", x.broken(), 1);
        x.begin(0);
        for (int t = 1; t <= 29; t++) {
            x.call(0, FAILED);
        }
        due("not at the 29th", x.broken(), 0);
        x.call(0, DONE);
        due("at the 30th", x.broken(), 30);
        says("39", "0: it is not.");
        x.strike();
        due("no more", x.broken(), 0);
        x.see(0, true);
        x.begin(0);
        due("begun again", x.broken(), 0);
        due("of a new object", new HelperWeave().broken(), 0);
    }

    private static void againTold() {
        says("40", "`int again(int s)`: Whether a HELPER may be CALLED once more in all WORLDS, and it comes to the same "
            + "(all that it NEEDS is held, and doing it changes nothing): 1, 0.");
        // 0 does nothing; 1 needs 0; 2 gives 0; 3 takes 0; 4 takes and gives 0; 5 needs and takes 0
        HelperWeave x = withHelpers(0, 0, 0, 1, 0, 0, 0, 1, 0, 0, 0, 1, 0, 1, 1, 1, 0, 1);
        long[][] due = {{1, 0, 0, 1, 0, 0}, {1, 1, 1, 0, 1, 0}, {1, 0, 0, 0, 0, 0}};
        for (int s = 0; s < 6; s++) {
            x.begin(0);
            due("without it, " + s, x.again(s), due[0][s]);
            x.begin(1);
            due("with it, " + s, x.again(s), due[1][s]);
            x.begin(0);
            x.call(2, LOST);
            due("in one of two, " + s, x.again(s), due[2][s]);
        }
        HelperWeave y = withHelpers(2048, 1024, 512);
        y.begin(3072);
        due("all of it", y.again(0), 1);
        y.begin(2048);
        due("what it GIVES is not held", y.again(0), 0);
        y.begin(3584);
        due("what it TAKES is held", y.again(0), 0);
        y.begin(1024);
        due("what it NEEDS is not held", y.again(0), 0);
        says("40", "UNKNOWN;");
        for (int s : new int[] {-1, 6, 8, MIN, MAX}) {
            due("s " + s, x.again(s), U);
        }
        x.begin(0);
        x.see(0, true);
        due("ahead of STATE", x.again(6), U);
        due("ahead of STATE", x.again(-1), U);
        says("40", "STATE: there is no WORLD.");
        for (int s = 0; s < 6; s++) {
            due("s " + s, x.again(s), S);
        }
    }
}
