/** Promises 17 to 20: helpers, what is set of them, and levels. */
final class HelperTest {
    private static final int U = HelperWeave.UNKNOWN, O = HelperWeave.OUTSIDE, F = HelperWeave.FULL,
        N = HelperWeave.NONE;

    private static void helpers() {
        HelperWeave x = new HelperWeave();
        Check.due("17: needs", x.helper(-1, 0, 0), O);
        Check.due("17: gives", x.helper(0, 4096, 0), O);
        Check.due("17: takes", x.helper(0, 0, Integer.MIN_VALUE), O);
        Check.due("17: none yet", x.count(2), 0);
        for (int s = 0; s < 8; s++) {
            Check.due("17: number", x.helper(s, 4095 - s, 2 * s), s);
        }
        Check.due("17: a ninth", x.helper(0, 0, 0), F);
        Check.due("17: outside ahead of full", x.helper(0, 0, 4096), O);
        Check.due("17: eight", x.count(2), 8);
        Check.due("18: no ninth", x.set(8, 0, 0), U);
        Check.due("18: no ninth to undo", x.set(7, 4, 8), U);
        Check.due("20: no ninth", x.about(8, 0), U);
        Check.due("21: no ninth", x.put(8), U);
        Check.due("33: no ninth", x.call(8, 0), U);
        long[] told = new long[8];
        for (int what = 0; what < 8; what++) {
            told[what] = x.about(5, what);
        }
        Check.dueAll("20: of a new one", told, 0, 0, 3, 3, N, 5, 4090, 10);
    }

    private static void set(int what, int least, int most, int first) {
        HelperWeave x = new HelperWeave();
        x.helper(0, 0, 0);
        x.helper(0, 0, 0);
        String name = "18: what " + what;
        Check.due(name + ", below", x.set(1, what, least - 1), O);
        Check.due(name + ", above", x.set(1, what, most + 1), O);
        Check.due(name + ", far above", x.set(1, what, Integer.MAX_VALUE), O);
        Check.due(name + ", as it was", x.about(1, what), first);
        Check.due(name + ", most", x.set(1, what, most), first);
        Check.due(name + ", least", x.set(1, what, least), most);
        Check.due(name + ", the same", x.set(1, what, least), least);
        Check.due(name + ", told", x.about(1, what), least);
        Check.due(name + ", of the other one", x.about(0, what), first);
    }

    private static void sets() {
        set(0, 0, 50, 0);
        set(1, 0, 9, 0);
        set(2, 1, 3, 3);
        set(3, 0, 3, 3);
        HelperWeave x = new HelperWeave();
        x.helper(0, 0, 0);
        x.helper(0, 0, 0);
        Check.due("18: undo", x.set(0, 4, 1), N);
        Check.due("18: itself", x.set(0, 4, 0), 1);
        Check.due("18: none", x.set(0, 4, N), 0);
        Check.due("18: not there", x.set(0, 4, 2), U);
        Check.due("18: not there, below", x.set(0, 4, -2), U);
        Check.due("20: undo", x.about(0, 4), N);
        Check.due("18: s", x.set(2, 0, 51), U);
        Check.due("18: s below", x.set(-1, 0, 51), U);
        Check.due("18: what", x.set(0, 5, 0), U);
        Check.due("18: what below", x.set(0, -1, 0), U);
        Check.due("20: s", x.about(2, 8), U);
        Check.due("20: s below", x.about(-1, 0), U);
        Check.due("20: what", x.about(0, 8), O);
        Check.due("20: what below", x.about(0, -1), O);
    }

    private static void levels() {
        HelperWeave x = new HelperWeave();
        for (int f = 0; f < 12; f++) {
            Check.due("19: first", x.level(f, 3), 0);
            Check.due("19: then", x.level(f, f % 4), 3);
        }
        Check.due("19: v", x.level(0, 4), O);
        Check.due("19: v below", x.level(0, -1), O);
        Check.due("19: f", x.level(12, 4), U);
        Check.due("19: f below", x.level(-1, 0), U);
        for (int f = 0; f < 12; f++) {
            Check.due("19: taint of a fact held at first", x.taint(4095, f), f % 4);
        }
    }

    public static void main(String[] args) {
        helpers();
        sets();
        levels();
        Check.finish("HelperTest");
    }
}
