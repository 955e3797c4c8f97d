import java.math.BigInteger;

/** Sentences of the row, and of promises 21 to 31. */
final class RowEdges extends Edges {
    static void all() {
        rows();
        taintsAtFirst();
        maySo();
        brings();
        goes();
        best();
        tries();
        undoing();
        putTold();
        emptyTold();
        atTold();
        stopsTold();
        afterTold();
        taintTold();
        costsTold();
        planTold();
        planRefused();
        chanceTold();
        meanTold();
        undoneTold();
    }

    private static void rows() {
        says("Terms", "THE ROW: up to 5 HELPERS, one behind the other, from FACTS that are held at first.");
        // each needs the fact that the one ahead of it gives
        HelperWeave x = withHelpers(1, 2, 1, 2, 4, 2, 4, 8, 4, 8, 16, 8, 16, 32, 16);
        for (int s = 0; s < 5; s++) {
            due("HELPER " + s, x.put(s), s + 1);
        }
        due("a sixth", x.put(0), F);
        due("one behind the other", x.after(1), 32);
        due("what else is held at first", x.after(2049), 2080);
        due("not from other FACTS", x.stops(2), 0);
        row(x, 4, 3, 2, 1, 0);
        due("the other way round", x.stops(16), 1);
        row(x);
        due("of none", x.after(77), 77);
    }

    private static void taintsAtFirst() {
        says("Terms", "Each FACT held has a TAINT: at first its LEVEL.");
        HelperWeave x = new HelperWeave();
        for (int f = 0; f < 12; f++) {
            x.level(f, f % 4);
        }
        for (int f = 0; f < 12; f++) {
            due("of FACT " + f, x.taint(4095, f), f % 4);
            due("not held", x.taint(4095 - (1 << f), f), N);
        }
    }

    private static void maySo() {
        says("Terms", "A HELPER MAY go, if what it NEEDS is held, with TAINT at most its TRUST, and it was there less "
            + "often than its QUOTA.");
        HelperWeave x = withHelpers(3, 0, 0, 0, 0, 0);
        row(x, 0);
        due("both are held", x.stops(3), N);
        due("and more", x.stops(4095), N);
        due("one of two", x.stops(1), 0);
        due("the other of two", x.stops(2), 0);
        due("none", x.stops(0), 0);
        for (int trust = 0; trust <= 3; trust++) {
            for (int level = 0; level <= 3; level++) {
                x.set(0, TRUST, trust);
                x.level(1, level);
                due("TAINT " + level + ", TRUST " + trust, x.stops(3), level <= trust ? N : 0);
            }
        }
        x.level(1, 0);
        x.level(2, 3);
        x.set(0, TRUST, 0);
        due("TAINT of what it does not NEED", x.stops(7), N);
        for (int quota = 1; quota <= 3; quota++) {
            x.set(1, QUOTA, quota);
            row(x, 1, 1, 1, 1, 1);
            due("QUOTA " + quota, x.stops(0), quota);
        }
        x.set(1, QUOTA, 1);
        row(x, 0, 1, 0, 0);
        due("each HELPER for itself", x.stops(3), N);
    }

    private static void brings() {
        says("Terms", "Then what it TAKES is gone, and what it GIVES is held, with a TAINT that is the greatest of its "
            + "own LEVEL and the TAINTS (ahead of that) of all that it NEEDED.");
        // 0 makes 2 of 0 and 1; 1 gives what it takes; 2 takes what is not there; 3 gives 2 of nothing
        HelperWeave x = withHelpers(3, 4, 3, 0, 1, 1, 0, 0, 2048, 0, 4, 0);
        row(x, 0);
        due("taken and given", x.after(3), 4);
        due("others stay", x.after(2051), 2052);
        row(x, 1);
        due("given though taken", x.after(1), 1);
        due("given", x.after(0), 1);
        row(x, 2);
        due("taken though not held", x.after(7), 7);
        due("taken though not needed", x.after(2055), 7);
        row(x, 0);
        for (int one = 0; one <= 3; one++) {
            for (int other = 0; other <= 3; other++) {
                for (int own = 0; own <= 3; own++) {
                    x.level(0, one);
                    x.level(1, other);
                    x.level(2, own);
                    due("the greatest of " + one + ", " + other + ", " + own, x.taint(3, 2),
                        Math.max(own, Math.max(one, other)));
                    due("not of what it did not NEED", taintAlone(x), own);
                }
            }
        }
        x.level(0, 1);
        x.level(1, 2);
        x.level(2, 0);
        row(x, 0);
        due("needed", x.taint(3, 2), 2);
        row(x, 0, 3);
        due("given anew, of nothing", x.taint(3, 2), 0);
        HelperWeave y = withHelpers(3, 1, 0, 1, 4, 0);
        y.level(1, 3);
        row(y, 0);
        due("held and given again", y.taint(3, 0), 3);
        due("held and not given", y.taint(3, 1), 3);
        row(y, 0, 1);
        due("passed on", y.taint(3, 2), 3);
        row(y, 1);
        due("not passed on by others", y.taint(3, 2), 0);
    }

    private static int taintAlone(HelperWeave x) {
        row(x, 3);
        int taint = x.taint(3, 2);
        row(x, 0);
        return taint;
    }

    private static void goes() {
        says("Terms", "THE ROW GOES, if each MAY, one behind the other.");
        HelperWeave x = withHelpers(0, 1, 0, 1, 0, 1, 2, 0, 0);
        row(x, 0, 1, 0, 1, 0);
        due("each MAY", x.stops(0), N);
        row(x, 0, 1, 0, 1, 2);
        due("the last MAY not", x.stops(0), 4);
        due("it MAY from others", x.stops(2), N);
        row(x, 2, 0, 1, 0, 1);
        due("the first MAY not", x.stops(0), 0);
        row(x, 0, 1, 1, 2, 2);
        due("the first that MAY not", x.stops(0), 2);
    }

    private static void prices(HelperWeave x, int... prices) {
        for (int s = 0; s < prices.length; s++) {
            x.set(s, PRICE, prices[s]);
        }
    }

    private static void best() {
        says("Terms", "THE BEST for a WISH, of up to so many HELPERS (0 to 5): of all ROWS that GO, after which all FACTS "
            + "that are wished are held, the one with the least sum of PRICES, of like ones the shortest, of like ones "
            + "that with the least HELPER first, then second, and so on.");
        HelperWeave x = withHelpers(1, 2, 1, 2, 4, 2, 4, 8, 4, 8, 16, 8, 16, 32, 16);
        prices(x, 50, 50, 50, 50, 50);
        for (int most = 0; most <= 5; most++) {
            due("five are due, of up to " + most, x.plan(1, 32, most), most == 5 ? 250 : N);
        }
        dueRow("all five", rowOf(x), 0, 1, 2, 3, 4);
        due("what is held already", x.plan(32, 32, 0), 0);
        dueRow("none", rowOf(x));
        due("what is held on the way is gone", x.plan(1, 6, 5), N);
        // least sum ahead of the shortest
        HelperWeave y = withHelpers(0, 1, 0, 0, 1, 0, 0, 2, 0, 2, 1, 0);
        prices(y, 9, 8, 3, 4);
        due("least sum", y.plan(0, 1, 5), 7);
        dueRow("least sum", rowOf(y), 2, 3);
        due("least sum of one", y.plan(0, 1, 1), 8);
        dueRow("least sum of one", rowOf(y), 1);
        prices(y, 9, 7, 3, 4);
        due("the shortest of like sums", y.plan(0, 1, 5), 7);
        dueRow("the shortest of like sums", rowOf(y), 1);
        prices(y, 7, 7, 3, 4);
        due("the least first", y.plan(0, 1, 5), 7);
        dueRow("the least first", rowOf(y), 0);
        prices(y, 0, 0, 0, 0);
        due("at no price the shortest", y.plan(0, 3, 5), 0);
        dueRow("at no price the shortest", rowOf(y), 0, 2);
        HelperWeave z = withHelpers(0, 4, 0, 0, 2, 0, 0, 2, 0, 0, 1, 0);
        due("all that is wished", z.plan(0, 7, 5), 0);
        dueRow("the least first, then second, then third", rowOf(z), 0, 1, 3);
        due("no more than is wished", z.plan(4, 6, 5), 0);
        dueRow("no more than is wished", rowOf(z), 1);
        z.set(1, TRUST, 0);
        z.level(2, 3);
        due("only ROWS that GO", z.plan(0, 2, 5), 0);
        dueRow("it NEEDS nothing", rowOf(z), 1);
    }

    /** Chance and mean by writing out every course of tries: times 10 to the 3 * 5. */
    private static final class Courses {
        private static final int DIGITS = 15;
        private final int[] prices;
        private final int[] fails;
        private final int most;
        private BigInteger gone = BigInteger.ZERO;
        private BigInteger paid = BigInteger.ZERO;

        Courses(int[] prices, int[] fails, int most) {
            this.prices = prices;
            this.fails = fails;
            this.most = most;
            go(0, 1, BigInteger.TEN.pow(DIGITS), 0);
        }

        private void go(int place, int attempt, BigInteger chance, int cost) {
            if (place == prices.length) {
                gone = gone.add(chance);
                paid = paid.add(chance.multiply(BigInteger.valueOf(cost)));
                return;
            }
            int now = cost + prices[place];
            BigInteger tenth = chance.divide(BigInteger.TEN);
            go(place + 1, 1, tenth.multiply(BigInteger.valueOf(10 - fails[place])), now);
            BigInteger failed = tenth.multiply(BigInteger.valueOf(fails[place]));
            if (attempt < most) {
                go(place, attempt + 1, failed, now);
            } else {
                paid = paid.add(failed.multiply(BigInteger.valueOf(now)));
            }
        }

        static long part(BigInteger number, int part) {
            BigInteger below = BigInteger.TEN.pow(DIGITS);
            BigInteger common = number.gcd(below);
            return (part == 0 ? number : below).divide(common).longValueExact();
        }
    }

    private static void compareCourses(int[] prices, int[] fails) {
        HelperWeave x = new HelperWeave();
        for (int s = 0; s < prices.length; s++) {
            x.helper(0, 0, 0);
            x.set(s, PRICE, prices[s]);
            x.set(s, FAILS, fails[s]);
            x.put(s);
        }
        for (int r = 1; r <= 3; r++) {
            Courses courses = new Courses(prices, fails, r);
            for (int part = 0; part <= 1; part++) {
                String name = "(" + r + ", " + part + ") of " + prices.length;
                due("chance" + name, x.chance(r, part), Courses.part(courses.gone, part));
                due("mean" + name, x.mean(r, part), Courses.part(courses.paid, part));
            }
        }
    }

    private static void tries() {
        says("Terms", "TRIES r (1 to 3): each HELPER of THE ROW is tried until it does not fail, r times at most; if it "
            + "fails r times, THE ROW stops.");
        compareCourses(new int[] {}, new int[] {});
        compareCourses(new int[] {50}, new int[] {9});
        compareCourses(new int[] {10, 4}, new int[] {5, 2});
        compareCourses(new int[] {0, 7, 50, 1, 13}, new int[] {1, 2, 3, 7, 8});
        compareCourses(new int[] {50, 50, 50, 50, 50}, new int[] {9, 9, 9, 9, 9});
        compareCourses(new int[] {50, 50, 50, 50, 50}, new int[] {0, 0, 0, 0, 0});
        compareCourses(new int[] {49, 50, 47, 43, 41}, new int[] {9, 7, 3, 1, 9});
        says("Terms", "THE CHANCE: that none stops it.");
        HelperWeave x = withHelpers(4095, 0, 0, 0, 0, 0);
        x.set(0, FAILS, 9);
        x.set(1, FAILS, 5);
        row(x, 0, 1);
        long[][] chances = {{1, 20}, {57, 400}, {1897, 8000}};
        for (int r = 1; r <= 3; r++) {
            due("above, of " + r + ", though it does not GO", x.chance(r, 0), chances[r - 1][0]);
            due("below, of " + r, x.chance(r, 1), chances[r - 1][1]);
        }
        says("Terms", "THE MEAN: of PRICES, paid at each try.");
        x.set(0, PRICE, 10);
        x.set(1, PRICE, 50);
        // 10 and 1/10 of 50; 10 + 9 and 19/100 of 75; 10 + 9 + 8.1 and 271/1000 of 87.5
        long[][] means = {{15, 1}, {133, 4}, {813, 16}};
        for (int r = 1; r <= 3; r++) {
            due("above, of " + r + ", though it does not GO", x.mean(r, 0), means[r - 1][0]);
            due("below, of " + r, x.mean(r, 1), means[r - 1][1]);
        }
    }

    private static void undoing() {
        says("Terms", "UNDONE at k (0 to the length of THE ROW): the first k HELPERS went; then their UNDOS go, the last "
            + "one's first;");
        // 0 makes 1 of 0, and 1 makes 2 of 1; 2 and 3 take that back
        HelperWeave x = withHelpers(1, 2, 1, 2, 4, 2, 2, 1, 2, 4, 2, 4);
        x.set(0, UNDO, 2);
        x.set(1, UNDO, 3);
        row(x, 0, 1);
        due("at 0, 1 and 2", x.undone(1), 7);
        row(x, 0);
        due("at 0 and 1", x.undone(1), 3);
        row(x);
        due("at 0 alone", x.undone(1), 1);
        HelperWeave y = withHelpers(0, 1, 0, 0, 0, 1);
        y.set(0, UNDO, 1);
        y.helper(0, 0, 0);
        y.set(2, UNDO, 2);
        row(y, 0, 0, 0, 2, 2);
        due("at 0 to 5", y.undone(0), 63);
        // what the first one's needs is there only when the second one went
        HelperWeave z = withHelpers(0, 1, 0, 0, 2, 0, 2, 0, 3, 0, 0, 0);
        z.set(0, UNDO, 2);
        z.set(1, UNDO, 3);
        row(z, 0, 1);
        due("at 0 and 2", z.undone(0), 5);
        undoingHolds();
    }

    private static void undoingHolds() {
        says("Terms", "it HOLDS, if all have one, each of these MAY (QUOTAS do not count), and just the FACTS of the "
            + "beginning are held at last.");
        // 0 gives 0, 1 takes it; 2 does nothing; 3 needs 11; 4 gives 0 and 1
        HelperWeave x = withHelpers(0, 1, 0, 0, 0, 1, 0, 0, 0, 2048, 0, 1, 0, 3, 0);
        row(x, 2, 0, 2);
        due("none has one", x.undone(0), 1);
        x.set(0, UNDO, 1);
        due("the first has none", x.undone(0), 1);
        x.set(2, UNDO, 2);
        due("all have one", x.undone(0), 15);
        x.set(0, UNDO, N);
        due("the second has none", x.undone(0), 3);
        row(x, 0);
        x.set(0, UNDO, 3);
        due("it MAY not", x.undone(0), 1);
        due("it MAY", x.undone(2048), 3);
        x.level(11, 2);
        x.set(3, TRUST, 1);
        due("it does not trust that", x.undone(2048), 1);
        x.set(3, TRUST, 2);
        due("it trusts that", x.undone(2048), 3);
        x.set(0, UNDO, 2);
        due("more is held at last", x.undone(0), 1);
        due("just the same is held at last", x.undone(1), 3);
        x.set(0, UNDO, 1);
        due("less is held at last", x.undone(1), 1);
        x.set(0, UNDO, 4);
        due("others are held at last", x.undone(1), 1);
        HelperWeave y = withHelpers(0, 1, 0, 0, 0, 1, 0, 0, 0);
        y.set(0, UNDO, 1);
        y.set(1, QUOTA, 1);
        y.set(2, QUOTA, 1);
        y.set(2, UNDO, 2);
        row(y, 0, 0, 0, 2);
        due("QUOTAS do not count", y.undone(0), 31);
        // the taint of what one undo gives is seen by the next one
        HelperWeave z = withHelpers(0, 1, 0, 0, 0, 0, 2, 0, 3, 4, 2, 0);
        z.set(0, UNDO, 2);
        z.set(1, UNDO, 3);
        z.level(2, 2);
        row(z, 0, 1);
        due("a TAINT that is passed on", z.undone(4), 5);
        z.set(2, TRUST, 1);
        due("and not trusted", z.undone(4), 1);
    }

    private static void putTold() {
        says("21", "`int put(int s)`: A HELPER comes behind THE ROW: how many.");
        HelperWeave x = withHelpers(0, 0, 0, 0, 0, 0);
        for (int i = 0; i < 5; i++) {
            due("put", x.put(i % 2), i + 1);
            due("behind", x.at(i), i % 2);
        }
        says("21", "UNKNOWN;");
        for (int s : new int[] {-1, 2, 8, MIN, MAX}) {
            due("s " + s + ", ahead of FULL", x.put(s), U);
            due("s " + s, withHelpers(0, 0, 0, 0, 0, 0).put(s), U);
        }
        due("of no HELPERS", new HelperWeave().put(0), U);
        says("21", "FULL.");
        due("a sixth", x.put(0), F);
        due("a sixth, another one", x.put(1), F);
        dueRow("THE ROW stays", rowOf(x), 0, 1, 0, 1, 0);
    }

    private static void emptyTold() {
        says("22", "`int empty()`: THE ROW is empty: how many there were.");
        HelperWeave x = withHelpers(0, 0, 0);
        due("none", x.empty(), 0);
        for (int many = 1; many <= 5; many++) {
            for (int i = 0; i < many; i++) {
                x.put(0);
            }
            due("there were " + many, x.empty(), many);
            due("none now", x.count(7), 0);
            due("no first", x.at(0), N);
            due("empty again", x.empty(), 0);
        }
        due("the first again", x.put(0), 1);
    }

    private static void atTold() {
        says("23", "`int at(int i)`: The i-th of THE ROW;");
        HelperWeave x = withHelpers(0, 0, 0, 0, 0, 0, 0, 0, 0);
        row(x, 2, 0, 1, 1, 2);
        dueRow("all five", new long[] {x.at(0), x.at(1), x.at(2), x.at(3), x.at(4)}, 2, 0, 1, 1, 2);
        says("23", "NONE.");
        for (int i : new int[] {-1, 5, 6, MIN, MAX}) {
            due("at(" + i + ")", x.at(i), N);
        }
        row(x, 2);
        due("what was there", x.at(1), N);
        due("of an empty ROW", new HelperWeave().at(0), N);
    }

    private static void stopsTold() {
        says("24", "`int stops(int facts)`: The first place of THE ROW at which the HELPER MAY not go, from FACTS;");
        HelperWeave x = withHelpers(0, 0, 0, 1, 0, 0);
        for (int place = 0; place < 3; place++) {
            row(x, place > 0 ? 0 : 1, place > 1 ? 0 : 1, 1);
            due("place " + place, x.stops(0), place);
        }
        row(x, 0, 0, 0, 0, 1);
        due("place 3", x.stops(0), 3);
        row(x, 0, 0, 1, 0, 1);
        due("place 2 ahead of 4", x.stops(4094), 2);
        says("24", "NONE: it GOES.");
        due("from 1", x.stops(1), N);
        due("from all", x.stops(4095), N);
        due("of an empty ROW", new HelperWeave().stops(0), N);
        says("24", "OUTSIDE: facts.");
        for (int facts : new int[] {-1, 4096, MIN, MAX}) {
            due("facts " + facts, x.stops(facts), O);
            due("of an empty ROW", new HelperWeave().stops(facts), O);
        }
    }

    private static void afterTold() {
        says("25", "`int after(int facts)`: FACTS that are held behind THE ROW.");
        HelperWeave x = withHelpers(1, 2050, 1);
        due("of an empty ROW", x.after(4095), 4095);
        row(x, 0);
        due("from 1", x.after(1), 2050);
        due("from all", x.after(4095), 4094);
        says("25", "OUTSIDE;");
        for (int facts : new int[] {-1, 4096, MIN, MAX}) {
            due("facts " + facts, x.after(facts), O);
        }
        row(x, 0, 0);
        due("ahead of STATE", x.after(-1), O);
        due("ahead of STATE", x.after(4096), O);
        says("25", "STATE: it does not GO.");
        due("from 1", x.after(1), S);
        due("from none", x.after(0), S);
        row(x, 0);
        due("from others", x.after(4094), S);
    }

    private static void taintTold() {
        says("26", "`int taint(int facts, int f)`: TAINT of a FACT behind THE ROW;");
        HelperWeave x = withHelpers(1, 2048, 1);
        x.level(0, 2);
        x.level(1, 3);
        row(x, 0);
        due("given", x.taint(3, 11), 2);
        due("held at first", x.taint(3, 1), 3);
        due("none", x.taint(7, 2), 0);
        says("26", "NONE: it is not held.");
        due("taken", x.taint(1, 0), N);
        due("never there", x.taint(1, 5), N);
        says("26", "UNKNOWN: f;");
        for (int f : new int[] {-1, 12, MIN, MAX}) {
            due("f " + f, x.taint(1, f), U);
            due("ahead of OUTSIDE", x.taint(-1, f), U);
            due("ahead of STATE", x.taint(0, f), U);
        }
        says("26", "OUTSIDE: facts;");
        for (int facts : new int[] {-1, 4096, MIN, MAX}) {
            due("facts " + facts, x.taint(facts, 0), O);
        }
        row(x, 0, 0);
        due("ahead of STATE", x.taint(4096, 0), O);
        says("26", "STATE.");
        due("it does not GO", x.taint(1, 0), S);
        due("it does not GO, of a FACT that is not held", x.taint(1, 5), S);
    }

    private static void costsTold() {
        says("27", "`int costs()`: The sum of PRICES of THE ROW.");
        HelperWeave x = withHelpers(4095, 0, 0, 0, 0, 0);
        due("of none", x.costs(), 0);
        row(x, 0);
        due("of one at no PRICE", x.costs(), 0);
        prices(x, 50, 1);
        row(x, 0, 0, 0, 0, 0);
        due("of five, though it does not GO", x.costs(), 250);
        row(x, 0, 1, 1);
        due("of three", x.costs(), 52);
        x.set(1, PRICE, 3);
        due("of PRICES that are now", x.costs(), 56);
        x.empty();
        due("of none again", x.costs(), 0);
    }

    private static void planTold() {
        says("28", "`int plan(int facts, int wish, int most)`: THE ROW becomes THE BEST for a WISH: the sum of its PRICES;");
        HelperWeave x = withHelpers(0, 1, 0, 1, 2, 0, 0, 0, 0);
        prices(x, 20, 30, 0);
        row(x, 2, 2, 2, 2, 2);
        due("a shorter ROW", x.plan(0, 2, 5), 50);
        dueRow("a shorter ROW", rowOf(x), 0, 1);
        due("its sum", x.costs(), 50);
        due("a longer ROW", x.plan(1, 2, 5), 30);
        dueRow("and another one", rowOf(x), 1);
        due("nothing is wished", x.plan(0, 0, 5), 0);
        dueRow("nothing is wished", rowOf(x));
        due("all is held", x.plan(4095, 4095, 0), 0);
        says("28", "NONE: there is none (THE ROW stays).");
        row(x, 2, 1, 0);
        due("no FACT 11", x.plan(0, 2048, 5), N);
        dueRow("THE ROW stays", rowOf(x), 2, 1, 0);
        due("not of one", x.plan(0, 2, 1), N);
        dueRow("THE ROW stays", rowOf(x), 2, 1, 0);
        due("not of none", x.plan(0, 1, 0), N);
        dueRow("THE ROW stays", rowOf(x), 2, 1, 0);
        due("they count", x.count(6), 7);
        due("of no HELPERS", new HelperWeave().plan(0, 1, 5), N);
    }

    private static void planRefused() {
        says("28", "OUTSIDE: facts, wish, most;");
        HelperWeave x = withHelpers(0, 1, 0);
        row(x, 0, 0);
        for (int set : new int[] {-1, 4096, MIN, MAX}) {
            due("facts " + set, x.plan(set, 0, 0), O);
            due("wish " + set, x.plan(0, set, 0), O);
        }
        for (int most : new int[] {-1, 6, MIN, MAX}) {
            due("most " + most, x.plan(0, 0, most), O);
        }
        due("none was done", x.count(6), 0);
        dueRow("THE ROW stays", rowOf(x), 0, 0);
        says("28", "STATE: it was done 20 times.");
        for (int i = 0; i < 20; i++) {
            due("plan()", x.plan(0, i % 2 == 0 ? 1 : 2, 5), i % 2 == 0 ? 0 : N);
            due("refused, which does not count", x.plan(0, 0, 6), O);
            due("how often", x.count(6), i + 1);
        }
        row(x, 0, 0, 0);
        due("the 21st", x.plan(0, 1, 5), S);
        due("of nothing", x.plan(0, 0, 0), S);
        due("OUTSIDE ahead of it", x.plan(4096, 0, 0), O);
        due("OUTSIDE ahead of it", x.plan(0, -1, 0), O);
        due("OUTSIDE ahead of it", x.plan(0, 0, 6), O);
        due("how often", x.count(6), 20);
        dueRow("THE ROW stays", rowOf(x), 0, 0, 0);
    }

    private static void chanceTold() {
        says("29", "`long chance(int r, int part)`: THE CHANCE in lowest terms: part 0 above, 1 below.");
        HelperWeave x = withHelpers(0, 0, 0);
        due("of an empty ROW, above", x.chance(1, 0), 1);
        due("of an empty ROW, below", x.chance(1, 1), 1);
        row(x, 0, 0, 0, 0, 0);
        due("never failing, above", x.chance(3, 0), 1);
        due("never failing, below", x.chance(3, 1), 1);
        x.set(0, FAILS, 5);
        due("halves, above", x.chance(1, 0), 1);
        due("halves, below", x.chance(1, 1), 32);
        x.set(0, FAILS, 9);
        due("the least, above", x.chance(1, 0), 1);
        due("the least, below", x.chance(1, 1), 100000);
        due("the longest, above", x.chance(3, 0), 271L * 271 * 271 * 271 * 271);
        due("the longest, below", x.chance(3, 1), 1000000000000000L);
        says("29", "OUTSIDE (as -102): r, part.");
        for (int r : new int[] {0, 4, -1, MIN, MAX}) {
            due("r " + r, x.chance(r, 0), -102);
        }
        for (int part : new int[] {-1, 2, MIN, MAX}) {
            due("part " + part, x.chance(1, part), -102);
        }
        due("both", x.chance(0, 2), -102);
    }

    private static void meanTold() {
        says("30", "`long mean(int r, int part)`: THE MEAN in lowest terms.");
        HelperWeave x = withHelpers(0, 0, 0);
        due("of an empty ROW, above", x.mean(3, 0), 0);
        due("of an empty ROW, below", x.mean(3, 1), 1);
        row(x, 0, 0, 0, 0, 0);
        x.set(0, FAILS, 9);
        due("at no PRICE, above", x.mean(3, 0), 0);
        due("at no PRICE, below", x.mean(3, 1), 1);
        x.set(0, FAILS, 0);
        x.set(0, PRICE, 50);
        for (int r = 1; r <= 3; r++) {
            due("never failing, above", x.mean(r, 0), 250);
            due("never failing, below", x.mean(r, 1), 1);
        }
        row(x, 0);
        x.set(0, FAILS, 5);
        long[][] means = {{50, 1}, {75, 1}, {175, 2}};
        for (int r = 1; r <= 3; r++) {
            due("above, of " + r, x.mean(r, 0), means[r - 1][0]);
            due("below, of " + r, x.mean(r, 1), means[r - 1][1]);
        }
        says("30", "OUTSIDE, as chance().");
        for (int r : new int[] {0, 4, -1, MIN, MAX}) {
            due("r " + r, x.mean(r, 0), -102);
        }
        for (int part : new int[] {-1, 2, MIN, MAX}) {
            due("part " + part, x.mean(1, part), -102);
        }
    }

    private static void undoneTold() {
        says("31", "`int undone(int facts)`: At which k UNDOING HOLDS, as bits.");
        HelperWeave x = withHelpers(0, 0, 0, 1, 0, 0, 0, 0, 0);
        due("of an empty ROW", x.undone(0), 1);
        due("of an empty ROW, from all", x.undone(4095), 1);
        x.set(0, UNDO, 2);
        row(x, 0, 0, 0, 2, 2);
        due("none behind the third", x.undone(0), 15);
        x.set(2, UNDO, 0);
        due("all", x.undone(4095), 63);
        says("31", "OUTSIDE;");
        for (int facts : new int[] {-1, 4096, MIN, MAX}) {
            due("facts " + facts, x.undone(facts), O);
        }
        row(x, 1);
        due("ahead of STATE", x.undone(-2), O);
        due("ahead of STATE", x.undone(4096), O);
        says("31", "STATE: THE ROW does not GO.");
        due("at its first place", x.undone(0), S);
        row(x, 0, 0, 0, 0);
        due("at its last place", x.undone(0), S);
    }
}
