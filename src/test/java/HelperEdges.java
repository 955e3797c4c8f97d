/** Sentences of facts and helpers, and of promises 17 to 20. */
final class HelperEdges extends Edges {
    static void all() {
        facts();
        helpers();
        traits();
        levels();
        helperTold();
        helperRefused();
        setTold();
        setRefused();
        levelTold();
        aboutTold();
    }

    private static void facts() {
        says("Terms", "======== 2 FACTS 0 to 11 are sets as bits.");
        HelperWeave x = new HelperWeave();
        for (int f = 0; f < 12; f++) {
            due("after() of FACT " + f, x.after(1 << f), 1 << f);
            due("taint of FACT " + f, x.taint(1 << f, f), 0);
            due("taint of another FACT", x.taint(4095 - (1 << f), f), N);
            due("level of FACT " + f, x.level(f, 0), 0);
        }
        due("all of them", x.after(4095), 4095);
        due("none of them", x.after(0), 0);
        due("a FACT 12", x.level(12, 0), U);
        due("a set with a FACT 12", x.after(4096), O);
        due("a FACT -1", x.level(-1, 0), U);
    }

    private static void helpers() {
        says("Terms", "A HELPER (8 at most, numbered) NEEDS, GIVES and TAKES FACTS;");
        HelperWeave x = new HelperWeave();
        for (int s = 0; s < 8; s++) {
            due("HELPER " + s, x.helper(1 << s, 2 << s, 4 << s), s);
        }
        due("a ninth", x.helper(0, 0, 0), F);
        for (int s = 0; s < 8; s++) {
            due("needs of " + s, x.about(s, 5), 1 << s);
            due("gives of " + s, x.about(s, 6), 2 << s);
            due("takes of " + s, x.about(s, 7), 4 << s);
        }
    }

    /** Every number from far below to far above what is told. */
    private static void within(int what, int least, int most, int first) {
        HelperWeave x = withHelpers(0, 0, 0, 0, 0, 0);
        due("what " + what + " at first", x.about(1, what), first);
        int now = first;
        for (int v = least - 3; v <= most + 3; v++) {
            boolean fits = v >= least && v <= most;
            due("set(1, " + what + ", " + v + ")", x.set(1, what, v), fits ? now : O);
            now = fits ? v : now;
            due("then it is", x.about(1, what), now);
        }
        for (int v : new int[] {MIN, MAX}) {
            due("set(1, " + what + ", " + v + ")", x.set(1, what, v), O);
        }
        due("then it is", x.about(1, what), most);
        due("the other HELPER's", x.about(0, what), first);
    }

    private static void traits() {
        says("Terms", "has a PRICE (0 to 50), FAILS by so many tenths (0 to 9), a QUOTA (1 to 3; 3 at first), a TRUST "
            + "(0 to 3; 3 at first), and an UNDO, a HELPER, or NONE.");
        within(PRICE, 0, 50, 0);
        within(FAILS, 0, 9, 0);
        within(QUOTA, 1, 3, 3);
        within(TRUST, 0, 3, 3);
        HelperWeave x = withHelpers(0, 0, 0, 0, 0, 0);
        int now = N;
        for (int v = -3; v <= 9; v++) {
            boolean fits = v == N || v == 0 || v == 1;
            due("UNDO " + v, x.set(0, UNDO, v), fits ? now : U);
            now = fits ? v : now;
            due("then it is", x.about(0, UNDO), now);
        }
    }

    private static void levels() {
        says("Terms", "A FACT has a LEVEL (0 to 3; 0 at first).");
        HelperWeave x = new HelperWeave();
        for (int f = 0; f < 12; f++) {
            int now = 0;
            for (int v = -2; v <= 6; v++) {
                boolean fits = v >= 0 && v <= 3;
                due("level(" + f + ", " + v + ")", x.level(f, v), fits ? now : O);
                now = fits ? v : now;
            }
            due("then it is", x.level(f, f % 4), 3);
        }
        for (int f = 0; f < 12; f++) {
            due("each for itself", x.level(f, 0), f % 4);
        }
    }

    private static void helperTold() {
        says("17", "`int helper(int needs, int gives, int takes)`: A HELPER, PRICE 0, never failing, without UNDO: its "
            + "number.");
        HelperWeave x = new HelperWeave();
        due("the first", x.helper(0, 0, 0), 0);
        due("the second", x.helper(4095, 4095, 4095), 1);
        due("the third", x.helper(1, 2048, 6), 2);
        long[][] due = {{0, 0, 3, 3, N, 0, 0, 0}, {0, 0, 3, 3, N, 4095, 4095, 4095}, {0, 0, 3, 3, N, 1, 2048, 6}};
        for (int s = 0; s < 3; s++) {
            for (int what = 0; what < 8; what++) {
                due("about(" + s + ", " + what + ")", x.about(s, what), due[s][what]);
            }
        }
    }

    private static void helperRefused() {
        says("17", "OUTSIDE: sets are not 0 to 4095;");
        HelperWeave x = new HelperWeave();
        for (int set : new int[] {-1, 4096, MIN, MAX}) {
            due("needs " + set, x.helper(set, 0, 0), O);
            due("gives " + set, x.helper(0, set, 0), O);
            due("takes " + set, x.helper(0, 0, set), O);
        }
        due("none came", x.count(2), 0);
        due("the next one's number", x.helper(0, 0, 0), 0);
        says("17", "FULL.");
        for (int s = 1; s < 8; s++) {
            due("HELPER " + s, x.helper(s, s, s), s);
        }
        due("a ninth", x.helper(0, 0, 0), F);
        due("OUTSIDE ahead of it", x.helper(-1, 0, 0), O);
        due("OUTSIDE ahead of it", x.helper(0, 4096, 0), O);
        due("OUTSIDE ahead of it", x.helper(0, 0, 4096), O);
        due("how many", x.count(2), 8);
        due("none of that number", x.about(8, 0), U);
    }

    private static void setTold() {
        says("18", "`int set(int s, int what, int v)`: What = 0 PRICE, 1 tenths by which it FAILS, 2 QUOTA, 3 TRUST, "
            + "4 UNDO (or NONE) of a HELPER becomes v: what it was.");
        HelperWeave x = withHelpers(1, 2, 4, 0, 0, 0);
        int[] first = {0, 0, 3, 3, N};
        int[] then = {50, 9, 1, 0, 1};
        for (int what = 0; what < 5; what++) {
            due("what " + what + " was", x.set(0, what, then[what]), first[what]);
            due("what " + what + " was then", x.set(0, what, then[what]), then[what]);
        }
        for (int what = 0; what < 5; what++) {
            due("about(0, " + what + ")", x.about(0, what), then[what]);
            due("about(1, " + what + ")", x.about(1, what), first[what]);
        }
        due("UNDO is itself", x.set(0, UNDO, 0), 1);
        due("UNDO is NONE", x.set(0, UNDO, N), 0);
        due("UNDO was NONE", x.set(0, UNDO, 1), N);
        due("what it NEEDS stays", x.about(0, 5), 1);
    }

    private static void setRefused() {
        says("18", "UNKNOWN: s, what, and an UNDO that is not there;");
        HelperWeave x = withHelpers(0, 0, 0, 0, 0, 0);
        for (int s : new int[] {-1, 2, 8, MIN, MAX}) {
            due("s " + s, x.set(s, 0, 0), U);
            due("s " + s + ", ahead of OUTSIDE", x.set(s, 0, 51), U);
        }
        for (int what : new int[] {-1, 5, 6, 7, 8, MIN, MAX}) {
            due("what " + what, x.set(0, what, 0), U);
            due("what " + what + ", ahead of OUTSIDE", x.set(0, what, 9999), U);
        }
        for (int v : new int[] {-2, 2, 8, MIN, MAX}) {
            due("UNDO " + v, x.set(0, UNDO, v), U);
        }
        due("it stays", x.about(0, UNDO), N);
        says("18", "OUTSIDE.");
        int[][] wrong = {{-1, 51}, {-1, 10}, {0, 4}, {-1, 4}};
        for (int what = 0; what < 4; what++) {
            due("below, " + what, x.set(0, what, wrong[what][0]), O);
            due("above, " + what, x.set(0, what, wrong[what][1]), O);
        }
    }

    private static void levelTold() {
        says("19", "`int level(int f, int v)`: LEVEL of a FACT becomes v: what it was.");
        HelperWeave x = new HelperWeave();
        due("at first", x.level(11, 3), 0);
        due("then", x.level(11, 1), 3);
        due("another FACT's", x.level(0, 2), 0);
        due("as taint at first", x.taint(2048, 11), 1);
        says("19", "UNKNOWN;");
        for (int f : new int[] {-1, 12, MIN, MAX}) {
            due("f " + f, x.level(f, 0), U);
            due("f " + f + ", ahead of OUTSIDE", x.level(f, 4), U);
        }
        says("19", "OUTSIDE.");
        for (int v : new int[] {-1, 4, MIN, MAX}) {
            due("v " + v, x.level(11, v), O);
        }
        due("it stays", x.level(11, 1), 1);
    }

    private static void aboutTold() {
        says("20", "`int about(int s, int what)`: Of a HELPER: what = 0 to 4 as for set(), 5 NEEDS, 6 GIVES, 7 TAKES.");
        HelperWeave x = withHelpers(1, 2, 4, 8, 16, 4095);
        x.set(1, PRICE, 50);
        x.set(1, FAILS, 9);
        x.set(1, QUOTA, 1);
        x.set(1, TRUST, 2);
        x.set(1, UNDO, 0);
        int[] due = {50, 9, 1, 2, 0, 8, 16, 4095};
        for (int what = 0; what < 8; what++) {
            due("what " + what, x.about(1, what), due[what]);
        }
        says("20", "UNKNOWN;");
        for (int s : new int[] {-1, 2, 8, MIN, MAX}) {
            due("s " + s, x.about(s, 0), U);
            due("s " + s + ", ahead of OUTSIDE", x.about(s, 8), U);
        }
        says("20", "OUTSIDE.");
        for (int what : new int[] {-1, 8, MIN, MAX}) {
            due("what " + what, x.about(0, what), O);
        }
    }
}
