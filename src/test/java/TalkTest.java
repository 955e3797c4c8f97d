/** Promises 1 to 9: a new object, the page, and talks read from it. */
final class TalkTest {
    private static final int U = HelperWeave.UNKNOWN, O = HelperWeave.OUTSIDE, S = HelperWeave.STATE,
        F = HelperWeave.FULL, N = HelperWeave.NONE;

    private static void newObject() {
        HelperWeave x = new HelperWeave();
        for (int what = 0; what < 8; what++) {
            Check.due("1: count(" + what + ")", x.count(what), 0);
        }
        Check.due("1: worlds(0)", x.worlds(0), 1);
        Check.due("1: world(0)", x.world(0), 0);
        Check.due("1: held(1)", x.held(1), 0);
        Check.due("1: broken()", x.broken(), 0);
        Check.due("1: costs()", x.costs(), 0);
        Check.due("1: at(0)", x.at(0), N);
        Check.due("1: steps(0)", x.steps(0), U);
        Check.due("1: about(0, 0)", x.about(0, 0), U);
    }

    private static void letters() {
        HelperWeave x = new HelperWeave();
        Check.due("2: letters(0)", x.letters(0), 0);
        Check.due("2: eight letters", x.letters(0x7E7E7E7E7E7E7E7EL), 8);
        Check.due("2: one letter", x.letters(1), 9);
        Check.due("2: byte 127", x.letters(127), O);
        Check.due("2: byte 128", x.letters(128), O);
        Check.due("2: byte 255 on top", x.letters(0xFF61616161616161L), O);
        Check.due("2: -1", x.letters(-1), O);
        Check.due("2: behind a 0", x.letters(0x610061L), O);
        Check.due("2: behind a 0, on top", x.letters(0x6100000000000000L), O);
        Check.due("2: first byte 0", x.letters(0x6100L), O);
        Check.due("2: refusals change nothing", x.count(1), 9);
        for (int i = 0; i < 8; i++) {
            Check.due("2: more", x.letters(0x6161616161616161L), 17 + 8 * i);
        }
        Check.due("2: 81", x.letters(0x6161616161616161L), F);
        Check.due("2: outside ahead of full", x.letters(0x7F61616161616161L), O);
        Check.due("2: 80", x.letters(0x61616161616161L), 80);
        Check.due("2: nothing more", x.letters(0), 80);
        Check.due("2: one more", x.letters(0x61), F);
        Check.due("2: still 80", x.count(1), 80);
    }

    private static void blank() {
        HelperWeave x = new HelperWeave();
        Check.due("3: none", x.blank(), 0);
        Check.write(x, "?a!b");
        Check.due("3: four", x.blank(), 4);
        Check.due("3: then none", x.blank(), 0);
        Check.due("3: count(1)", x.count(1), 0);
        Check.due("3: good()", x.good(), 0);
    }

    private static void good(String text, int want) {
        HelperWeave x = new HelperWeave();
        Check.write(x, text);
        Check.due("4: good of " + text, x.good(), want);
        Check.due("4: the page stays", x.count(1), text.length());
    }

    private static void goods() {
        good("", 0);
        good("?", 1);
        good("?a", 2);
        good("?h!a", 4);
        good("?i", 1);
        good("?`", 1);
        good("?A", 1);
        good("??", 1);
        good("a", 0);
        good("0", 1);
        good("00?a0", 5);
        good("1", 0);
        good(" ?a", 0);
        good("?a ", 2);
        good("(", 1);
        good("(|", 1);
        good("()", 1);
        good("(?a)", 3);
        good("(?a|", 4);
        good("(?a|)", 4);
        good("(?a|0)", 6);
        good("(?a||?b)", 4);
        good("(?a|?b|{!c})?d", 14);
        good("{", 1);
        good("{}", 1);
        good("{?a|?b}", 3);
        good("{?a)", 3);
        good("(?a|?b}", 6);
        good("{?a}}", 4);
        good("?a|?b", 2);
        good("?a)", 2);
        good("{(?a|{?b})}", 11);
        good("({(0|0)", 7);
        good("(?a|?b)(?c)", 10);
        good("(".repeat(80), 80);
        good("{".repeat(79) + "}", 79);
        good("?a".repeat(40), 80);
    }

    /** What was read ahead of it leaves nothing behind. */
    private static void readAnew() {
        HelperWeave x = new HelperWeave();
        for (String text : new String[] {"{(?a|", "?", "(?a|{!"}) {
            Check.write(x, text);
            Check.due("4: open", x.good(), text.length());
            Check.due("4: open still", x.good(), text.length());
            Check.due("5: open", x.talk(), S);
            x.blank();
        }
        Check.due("5: behind them", Check.talk(x, "(0|?a)(?b|?c)"), 0);
        Check.due("8: not nothing", x.ends(0, 0), 0);
        Check.due("7: past the first", x.next(0, 0, 0, 2), 3);
    }

    private static void read(String text, int want) {
        HelperWeave x = new HelperWeave();
        Check.write(x, text);
        Check.due("5: talk of " + text, x.talk(), want);
        Check.due("5: the page behind " + text, x.count(1), want == 0 ? 0 : text.length());
        Check.due("5: talks behind " + text, x.count(0), want == 0 ? 1 : 0);
    }

    private static void talks() {
        read("", S);
        read("?", S);
        read("?a(", S);
        read("(?a|?b", S);
        read("(?a)", S);
        read("{}", S);
        read("?a)", S);
        read("0", 0);
        read("?a", 0);
        read("{?a}", 0);
        read("{{?a}}", 0);
        read("{?a}?a", O);
        read("?a{?a}", 0);
        read("?a{?a}?a", O);
        read("(?a|?a)", O);
        read("(?a|!a)", 0);
        read("(0|?a)?a", O);
        read("(?a|?b)?a", 0);
        read("{?a?b}?a", O);
        read("{?a!a}!a", 0);
        read("{?a}{!a}{?a}", O);
        read("?a".repeat(24), 0);
        read("?a".repeat(25), O);
        read("?a".repeat(40), O);
        read("{".repeat(39) + "?a" + "}".repeat(39), 0);
        read("(0|".repeat(19) + "!h" + ")".repeat(19), 0);
    }

    private static void sixTalks() {
        HelperWeave x = new HelperWeave();
        for (int t = 0; t < 6; t++) {
            Check.due("5: talk " + t, Check.talk(x, "?a"), t);
        }
        Check.due("5: a seventh", Check.talk(x, "?a"), F);
        Check.due("5: the page stays", x.count(1), 2);
        Check.due("5: outside ahead of full", Check.talk(x, "(?a|?a)"), O);
        Check.due("5: state ahead of full", Check.talk(x, "(?a|?a"), S);
        Check.due("5: six", x.count(0), 6);
        Check.due("6: the sixth", x.steps(5), 1);
        Check.due("6: no seventh", x.steps(6), U);
        Check.due("10: no seventh", x.join(0, 6, 0), U);
    }

    private static void machine() {
        // steps: 1 ?a  2 !b  3 ?c  4 !d  5 ?e
        HelperWeave x = Check.withTalks("0", "?a(!b|{?c!d})?e");
        Check.due("6: steps of nothing", x.steps(0), 0);
        Check.due("6: steps", x.steps(1), 5);
        Check.due("6: steps(2)", x.steps(2), U);
        Check.due("6: steps(-1)", x.steps(-1), U);
        int[][] next = {{1, 0, 0, 1}, {1, 1, 1, 2}, {1, 0, 2, 3}, {1, 0, 4, 5}, {2, 0, 4, 5}, {3, 1, 3, 4},
            {4, 0, 2, 3}, {4, 0, 4, 5}};
        int[][] told = new int[6][16];
        for (int[] row : told) {
            java.util.Arrays.fill(row, N);
        }
        told[0][0] = 1;
        for (int i = 1; i < next.length; i++) {
            told[next[i][0]][next[i][1] * 8 + next[i][2]] = next[i][3];
        }
        for (int state = 0; state < 6; state++) {
            for (int kind = 0; kind < 16; kind++) {
                Check.due("7: next(1, " + state + ", " + kind / 8 + ", " + kind % 8 + ")",
                    x.next(1, state, kind / 8, kind % 8), told[state][kind]);
            }
            Check.due("8: ends(1, " + state + ")", x.ends(1, state), state == 5 ? 1 : 0);
        }
        Check.due("8: ends(0, 0)", x.ends(0, 0), 1);
        Check.due("7: next of nothing", x.next(0, 0, 0, 0), N);
    }

    private static void machineRefusals() {
        HelperWeave x = Check.withTalks("?a");
        Check.due("7: t", x.next(1, 0, 2, 8), U);
        Check.due("7: t below", x.next(-1, 0, 0, 0), U);
        Check.due("7: state", x.next(0, 2, 2, 0), U);
        Check.due("7: state below", x.next(0, -1, 0, 0), U);
        Check.due("7: sign", x.next(0, 0, 2, 0), O);
        Check.due("7: sign below", x.next(0, 0, -1, 0), O);
        Check.due("7: m", x.next(0, 0, 0, 8), O);
        Check.due("7: m below", x.next(0, 0, 1, -1), O);
        Check.due("7: the last state", x.next(0, 1, 0, 0), N);
        Check.due("7: far out", x.next(0, Integer.MAX_VALUE, 0, 0), U);
        Check.due("8: t", x.ends(1, 0), U);
        Check.due("8: state", x.ends(0, 2), U);
        Check.due("8: state below", x.ends(0, -1), U);
        Check.due("8: 0", x.ends(0, 0), 0);
        Check.due("8: 1", x.ends(0, 1), 1);
        Check.due("9: t", x.uses(1, 2), U);
        Check.due("9: sign", x.uses(0, 2), O);
        Check.due("9: sign below", x.uses(0, -1), O);
    }

    private static void loops() {
        HelperWeave x = Check.withTalks("{?a!b}", "{{?a}{!b}}", "{?a}!b", "(0|?a)(0|!b)");
        Check.dueAll("8: a loop ends", ends(x, 0), 1, 0, 1);
        Check.due("7: round the loop", x.next(0, 2, 0, 0), 1);
        Check.dueAll("8: loops in a loop end", ends(x, 1), 1, 1, 1);
        Check.due("7: back to the first", x.next(1, 2, 0, 0), 1);
        Check.due("7: itself", x.next(1, 2, 1, 1), 2);
        Check.dueAll("8: behind a loop", ends(x, 2), 0, 0, 1);
        Check.due("7: past the loop", x.next(2, 0, 1, 1), 2);
        Check.dueAll("8: may be nothing", ends(x, 3), 1, 1, 1);
        Check.due("7: not back", x.next(3, 2, 0, 0), N);
        Check.due("9: heard", x.uses(0, 0), 1);
        Check.due("9: said", x.uses(0, 1), 2);
        HelperWeave y = Check.withTalks("?h!a(?c|!h)", "0");
        Check.due("9: heard", y.uses(0, 0), 132);
        Check.due("9: said", y.uses(0, 1), 129);
        Check.due("9: nothing", y.uses(1, 0), 0);
    }

    private static long[] ends(HelperWeave x, int t) {
        long[] told = new long[x.steps(t) + 1];
        for (int state = 0; state < told.length; state++) {
            told[state] = x.ends(t, state);
        }
        return told;
    }

    public static void main(String[] args) {
        newObject();
        letters();
        blank();
        goods();
        readAnew();
        talks();
        sixTalks();
        machine();
        machineRefusals();
        loops();
        Check.finish("TalkTest");
    }
}
