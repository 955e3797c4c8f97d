/** Promises 21 to 31: the row, what it brings and costs, the best one, and how it is undone. */
final class RowTest {
    private static final int U = HelperWeave.UNKNOWN, O = HelperWeave.OUTSIDE, S = HelperWeave.STATE,
        F = HelperWeave.FULL, N = HelperWeave.NONE;

    /** An object with helpers of these needs, gives and takes. */
    private static HelperWeave with(int... sets) {
        HelperWeave x = new HelperWeave();
        for (int i = 0; i + 2 < sets.length; i += 3) {
            x.helper(sets[i], sets[i + 1], sets[i + 2]);
        }
        return x;
    }

    private static void row(HelperWeave x, int... helpers) {
        x.empty();
        for (int s : helpers) {
            x.put(s);
        }
    }

    private static long[] told(HelperWeave x) {
        long[] places = new long[x.count(7)];
        for (int i = 0; i < places.length; i++) {
            places[i] = x.at(i);
        }
        return places;
    }

    private static void places() {
        HelperWeave x = with(0, 1, 0, 0, 2, 0);
        Check.due("22: nothing", x.empty(), 0);
        Check.due("21: s", x.put(2), U);
        Check.due("21: s below", x.put(-1), U);
        for (int i = 1; i <= 5; i++) {
            Check.due("21: how many", x.put(i % 2), i);
        }
        Check.due("21: a sixth", x.put(0), F);
        Check.due("21: unknown ahead of full", x.put(2), U);
        Check.dueAll("23: the row", told(x), 1, 0, 1, 0, 1);
        Check.due("23: -1", x.at(-1), N);
        Check.due("23: 5", x.at(5), N);
        Check.due("22: five", x.empty(), 5);
        Check.due("23: gone", x.at(0), N);
        Check.due("41: count(7)", x.count(7), 0);
    }

    private static void going() {
        // 0 gives 1; 1 needs it, takes it and gives 2; 2 takes and gives 2
        HelperWeave x = with(0, 1, 0, 1, 2, 1, 2, 2, 2);
        row(x, 0, 1, 2);
        Check.due("24: goes", x.stops(0), N);
        Check.due("25: held", x.after(0), 2);
        Check.due("25: what else was held stays", x.after(2048), 2050);
        row(x, 1, 0);
        Check.due("24: at first", x.stops(0), 0);
        Check.due("24: goes from 1", x.stops(1), N);
        Check.due("25: 1 is held again", x.after(1), 3);
        row(x, 0, 1, 1);
        Check.due("24: what was taken is gone", x.stops(0), 2);
        Check.due("25: does not go", x.after(0), S);
        Check.due("26: does not go", x.taint(0, 0), S);
        Check.due("31: does not go", x.undone(0), S);
        Check.due("24: facts", x.stops(4096), O);
        Check.due("24: facts below", x.stops(-1), O);
        Check.due("25: facts", x.after(4096), O);
        Check.due("26: facts", x.taint(-1, 0), O);
        Check.due("26: f", x.taint(-1, 12), U);
        Check.due("26: f below", x.taint(0, -1), U);
        Check.due("31: facts", x.undone(4096), O);
        Check.due("31: facts below", x.undone(-1), O);
        row(x);
        Check.due("24: an empty row", x.stops(0), N);
        Check.due("25: an empty row", x.after(77), 77);
    }

    private static void quotas() {
        HelperWeave x = with(0, 1, 0, 0, 2, 0);
        row(x, 0, 0, 0, 0);
        Check.due("24: a fourth time", x.stops(0), 3);
        row(x, 0, 1, 0, 1, 0);
        Check.due("24: each for itself", x.stops(0), N);
        x.set(0, 2, 2);
        Check.due("24: a third time", x.stops(0), 4);
        x.set(0, 2, 1);
        Check.due("24: a second time", x.stops(0), 2);
    }

    private static void taints() {
        // 0 needs 0, 1 and gives 2; 1 gives 2 out of nothing; 2 needs 2 and gives 0, 3; 3 takes 2
        HelperWeave x = with(3, 4, 0, 0, 4, 0, 4, 9, 0, 0, 0, 4);
        x.level(0, 1);
        x.level(1, 2);
        row(x, 0);
        Check.due("26: the greatest of what it needed", x.taint(3, 2), 2);
        Check.due("26: held at first", x.taint(3, 0), 1);
        Check.due("26: not held", x.taint(3, 3), N);
        x.level(2, 3);
        Check.due("26: its own level", x.taint(3, 2), 3);
        x.level(2, 0);
        row(x, 0, 2);
        Check.due("26: passed on", x.taint(3, 3), 2);
        Check.due("26: held and given again", x.taint(3, 0), 2);
        Check.due("26: not given again", x.taint(3, 1), 2);
        row(x, 0, 1, 2);
        Check.due("26: given anew, with less", x.taint(3, 2), 0);
        Check.due("26: what follows has less", x.taint(3, 3), 0);
        Check.due("26: but its own level", x.taint(3, 0), 1);
        row(x, 0, 3);
        Check.due("26: gone", x.taint(3, 2), N);
        row(x, 0, 2);
        x.set(0, 3, 2);
        Check.due("24: trusts so far", x.stops(3), N);
        x.set(0, 3, 1);
        Check.due("24: does not trust", x.stops(3), 0);
        x.set(0, 3, 3);
        x.set(2, 3, 1);
        Check.due("24: nor behind it", x.stops(3), 1);
        x.set(2, 3, 0);
        row(x, 1, 2);
        Check.due("24: trusts nothing, and need not", x.stops(0), N);
        // what it takes itself is seen ahead of that
        HelperWeave y = with(3, 3, 3);
        y.level(1, 3);
        row(y, 0);
        Check.due("26: all of them", y.taint(3, 0), 3);
        Check.due("24: again", y.stops(3), N);
    }

    private static void costs() {
        HelperWeave x = with(1, 0, 0, 0, 0, 0);
        x.set(0, 0, 50);
        x.set(1, 0, 7);
        Check.due("27: nothing", x.costs(), 0);
        row(x, 0, 1, 0, 0, 0);
        Check.due("27: sum, though it does not go", x.costs(), 207);
        x.set(1, 0, 0);
        Check.due("27: prices of now", x.costs(), 200);
    }

    private static void plans() {
        // 0, 1, 2 give 0; 3 gives 1; 4 makes 0 of it
        HelperWeave x = with(0, 1, 0, 0, 1, 0, 0, 1, 0, 0, 2, 0, 2, 1, 2);
        int[] prices = {5, 3, 3, 1, 1};
        for (int s = 0; s < prices.length; s++) {
            x.set(s, 0, prices[s]);
        }
        Check.due("28: a longer one for less", x.plan(0, 1, 5), 2);
        Check.dueAll("28: a longer one for less", told(x), 3, 4);
        Check.due("28: of one", x.plan(0, 1, 1), 3);
        Check.dueAll("28: the least helper", told(x), 1);
        x.set(4, 0, 2);
        Check.due("28: like prices", x.plan(0, 1, 5), 3);
        Check.dueAll("28: the shortest", told(x), 1);
        Check.due("28: both facts", x.plan(0, 3, 5), 4);
        Check.dueAll("28: the first in order", told(x), 1, 3);
        Check.due("28: nothing to do", x.plan(3, 1, 5), 0);
        Check.dueAll("28: nothing to do", told(x));
        row(x, 2, 2);
        Check.due("28: there is none", x.plan(0, 4, 5), N);
        Check.dueAll("28: the row stays", told(x), 2, 2);
        Check.due("28: none so short", x.plan(0, 3, 1), N);
        Check.due("28: none at all", x.plan(0, 1, 0), N);
        Check.due("28: no wish", x.plan(0, 0, 0), 0);
        Check.due("41: count(6)", x.count(6), 9);
        Check.due("28: facts", x.plan(4096, 0, 0), O);
        Check.due("28: wish", x.plan(0, -1, 0), O);
        Check.due("28: most", x.plan(0, 0, 6), O);
        Check.due("28: most below", x.plan(0, 0, -1), O);
        for (int i = 9; i < 20; i++) {
            Check.due("28: done", x.plan(0, 1, 1), 3);
        }
        row(x);
        Check.due("28: the 21st", x.plan(0, 1, 1), S);
        Check.due("28: outside ahead of state", x.plan(0, 1, 6), O);
        Check.dueAll("28: refused", told(x));
        Check.due("41: count(6)", x.count(6), 20);
    }

    private static void plansWithin() {
        // fact 3 needs 1 and 2 at once: 1 makes 2 (and 0) of 1, and 0 makes 1 of 0 again; 3 gives 1
        HelperWeave x = with(1, 2, 1, 2, 5, 2, 6, 8, 0, 0, 2, 0);
        Check.due("28: four", x.plan(1, 8, 5), 0);
        Check.dueAll("28: one twice", told(x), 0, 1, 0, 2);
        Check.due("28: not of three", x.plan(1, 8, 3), N);
        x.set(0, 2, 1);
        Check.due("28: quotas", x.plan(1, 8, 5), 0);
        Check.dueAll("28: quotas", told(x), 0, 1, 3, 2);
        x.set(3, 0, 9);
        Check.due("28: dear", x.plan(1, 8, 5), 9);
        Check.dueAll("28: dear", told(x), 0, 1, 3, 2);
        x.level(0, 2);
        x.set(2, 3, 1);
        Check.due("28: what comes from 0 is not trusted", x.plan(1, 8, 5), 18);
        Check.dueAll("28: what comes from 0 is not trusted", told(x), 3, 1, 3, 2);
        x.set(3, 2, 1);
        Check.due("28: nor is there enough else", x.plan(1, 8, 5), N);
    }

    private static void chances() {
        HelperWeave x = with(0, 0, 0, 0, 0, 0);
        Check.due("29: nothing", x.chance(1, 0), 1);
        Check.due("29: nothing, below", x.chance(1, 1), 1);
        Check.due("30: nothing", x.mean(2, 0), 0);
        Check.due("30: nothing, below", x.mean(2, 1), 1);
        row(x, 0, 1);
        Check.due("29: never failing", x.chance(3, 0), 1);
        Check.due("29: never failing, below", x.chance(3, 1), 1);
        Check.due("30: free", x.mean(3, 0), 0);
        Check.due("30: free, below", x.mean(3, 1), 1);
        x.set(0, 0, 10);
        x.set(0, 1, 5);
        x.set(1, 0, 4);
        int[][] due = {{1, 2, 12, 1}, {3, 4, 18, 1}, {7, 8, 21, 1}};
        for (int r = 1; r <= 3; r++) {
            Check.due("29: tries " + r, x.chance(r, 0), due[r - 1][0]);
            Check.due("29: tries, below " + r, x.chance(r, 1), due[r - 1][1]);
            Check.due("30: tries " + r, x.mean(r, 0), due[r - 1][2]);
            Check.due("30: tries, below " + r, x.mean(r, 1), due[r - 1][3]);
        }
        x.set(1, 1, 2);
        // 3/4 of 24/25; 15, and 3/4 of 4 times 1.2
        Check.due("29: both", x.chance(2, 0), 18);
        Check.due("29: both, below", x.chance(2, 1), 25);
        Check.due("30: both", x.mean(2, 0), 93);
        Check.due("30: both, below", x.mean(2, 1), 5);
        Check.due("29: r", x.chance(0, 0), -102);
        Check.due("29: r above", x.chance(4, 0), -102);
        Check.due("29: part", x.chance(1, 2), -102);
        Check.due("29: part below", x.chance(1, -1), -102);
        Check.due("30: r", x.mean(0, 0), O);
        Check.due("30: r above", x.mean(4, 1), O);
        Check.due("30: part", x.mean(1, 2), O);
        Check.due("30: part below", x.mean(1, -1), O);
    }

    private static void undoing() {
        // 0 gives 0, 1 takes it back; 2 gives 1 for it; 3 takes that back
        HelperWeave x = with(0, 1, 0, 1, 0, 1, 1, 2, 1, 2, 1, 2);
        row(x, 0);
        Check.due("31: no undo", x.undone(0), 1);
        x.set(0, 4, 1);
        Check.due("31: undone", x.undone(0), 3);
        Check.due("31: not as it began", x.undone(1), 1);
        row(x, 0, 2);
        Check.due("31: the second has none", x.undone(0), 3);
        x.set(2, 4, 3);
        Check.due("31: the last one's first", x.undone(0), 7);
        Check.due("31: more was held", x.undone(4), 7);
        x.set(0, 4, 3);
        Check.due("31: one that may not", x.undone(0), 1);
        row(x, 2, 0);
        x.set(0, 4, N);
        Check.due("31: at some alone", x.undone(1), 3);
        x.level(1, 2);
        x.set(3, 3, 1);
        Check.due("31: not trusted", x.undone(1), 1);
        x.set(3, 3, 2);
        Check.due("31: trusted", x.undone(1), 3);
        // quotas do not count for undos
        HelperWeave y = with(0, 1, 0, 0, 0, 1);
        y.set(0, 4, 1);
        y.set(1, 2, 1);
        row(y, 0, 0, 0);
        Check.due("31: quotas", y.undone(0), 15);
        row(y);
        Check.due("31: an empty row", y.undone(4095), 1);
    }

    public static void main(String[] args) {
        places();
        going();
        quotas();
        taints();
        costs();
        plans();
        plansWithin();
        chances();
        undoing();
        Check.finish("RowTest");
    }
}
