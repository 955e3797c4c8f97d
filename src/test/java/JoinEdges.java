/** Sentences of talks joined, fitted and adapted, and of promises 10 to 16. */
final class JoinEdges extends Edges {
    private static final String SAYS_SEVEN = "{(!a|!b|!c|!d|!e|!f|!g)}";
    private static final String FIVE = "!a!b!c!d!e", SIX = "!a!b!c!d!e!f";

    static void all() {
        passes();
        pairs();
        unheard();
        stuck();
        nearest();
        firstRow();
        queues();
        stuckByQueues();
        places();
        spent();
        firstActs();
        fits();
        adapting();
        joinTold();
        joinRefused();
        walkedTold();
        traceTold();
        fitTold();
        swapTold();
        adaptersTold();
        adaptersRefused();
        adapterTold();
        adapterRefused();
    }

    private static void passes() {
        says("Terms", "JOINED at once, from STATES i of a, j of b (0, 0 at first): a MESSAGE passes, if the one may say "
            + "it next and the other one hear it: both go on.");
        joins("0", "0", 0, 0, 1);
        for (char m = 'a'; m <= 'h'; m++) {
            joins("!" + m, "?" + m, 0, 0, 2);
            joins("?" + m, "!" + m, 0, 0, 2);
            joins("?" + m, "?" + m, 0, 1, 1);
            joins("!" + m, "!" + m, 0, 2, 1);
        }
        HelperWeave x = withTalks("(!a|?a)");
        due("with itself", x.join(0, 0, 0), 0);
        due("with itself", x.walked(), 3);
    }

    private static void pairs() {
        says("Terms", "PAIRS that are reached so are WALKED.");
        joins("{!a}", "{?a}", 0, 0, 2);
        joins("{!a}", "{?a?a}", 0, 0, 3);
        joins("(!a|!b)!c", "(?a|?b)?c", 0, 0, 4);
        joins(SAYS_ALL, HEARS_ALL, 0, 0, 9);
        joins(HEARS_ALL, SAYS_ALL, 0, 0, 9);
        joins("{" + "!a".repeat(24) + "}", "{" + "?a".repeat(23) + "}", 0, 0, 1 + 24 * 23);
    }

    private static void unheard() {
        says("Terms", "A PAIR is UNHEARD, if one may say something that the other may not hear;");
        joins("!a", "?b", 0, 2, 1);
        joins("?b", "!a", 0, 2, 1);
        joins("!a", "0", 0, 2, 1);
        joins("0", "!a", 0, 2, 1);
        // though both may end, and though something passes
        joins("{!a}", "0", 0, 2, 1);
        joins("0", "{!h}", 0, 2, 1);
        joins("(!a|!b)", "?a", 0, 2, 2);
        joins("?a", "(!a|!b)", 0, 2, 2);
    }

    private static void stuck() {
        says("Terms", "else STUCK, if nothing passes, and not both MAY END.");
        joins("?a", "?a", 0, 1, 1);
        joins("?a", "0", 0, 1, 1);
        joins("0", "?a", 0, 1, 1);
        joins("?a", "{?b}", 0, 1, 1);
        joins("{?a}", "{?b}", 0, 0, 1);
        joins("{?a}", "0", 0, 0, 1);
        joins("?a?b", "!a", 0, 1, 2, 1);
        joins("!a", "?a?b", 0, 1, 2, 0);
    }

    private static void nearest() {
        says("Terms", "THE FAULT is an UNHEARD or STUCK PAIR with fewest passes to it;");
        joins("!a", "0", 0, 2, 1);
        joins("(!a!b!c|!d!e)", "(?a?b|?d)", 0, 2, 4, 6);
        joins("(!b?h|!a!c!d)", "(?b|?a?c)", 0, 1, 4, 2);
        joins("(!b!d|!a!c?h)", "(?b|?a?c)", 0, 2, 4, 2);
    }

    private static void firstRow() {
        says("Terms", "of like ones the one whose row of passes is first, by MESSAGES from a to h, each said by a ahead "
            + "of said by b.");
        joins("(!h!c|!a!c)", "(?h|?a)", 0, 2, 3, 0);
        joins("(!h!c|!g!c)", "(?h|?g)", 0, 2, 3, 12);
        joins("(?h!c|?g!c)", "(!h|!g)", 0, 2, 3, 13);
        joins("(!a!c|?a!c)", "(?a|!a)", 0, 2, 3, 0);
        joins("(?a!c|!a!c)", "(!a|?a)", 0, 2, 3, 0);
        joins("(!b!c|?a!c)", "(?b|!a)", 0, 2, 3, 1);
        // whatever it is
        joins("(!a?h|!b!c)", "(?a|?b)", 0, 1, 3, 0);
        joins("(!b?h|!a!c)", "(?b|?a)", 0, 2, 3, 0);
        // the first pass decides ahead of the second, and the second when the first are alike
        joins("(!b(!a!h|!c!h)|!a!d!h)", "(?b(?a|?c)|?a?d)", 0, 2, 6, 0, 6);
        joins("!b(!c!h|!a!h)", "?b(?c|?a)", 0, 2, 4, 2, 0);
        // one pair, by two rows
        joins("{(!a|!b)}", "(?a|?b)(?a|?b)", 0, 2, 5, 0, 0);
    }

    private static void queues() {
        says("Terms", "BY QUEUES of so many (1, 2): what is said goes behind a queue to the other one (as long as it is "
            + "not full), and is heard from its front.");
        for (char m = 'a'; m <= 'h'; m++) {
            joins("!" + m, "?" + m, 1, 0, 3);
            joins("?" + m, "!" + m, 2, 0, 3);
            joins("!a!" + m, "?a?" + m, 2, 0, 6);
        }
        joins("!a!b", "?a?b", 1, 0, 5);
        joins("!a!b", "?a?b", 2, 0, 6);
        joins("!a!b", "?b?a", 1, 1, 2, 0);
        joins("!a!b", "?b?a", 2, 1, 3, 0, 1);
        joins("!a!b!c", "?d", 1, 1, 2, 0);
        joins("!a!b!c", "?d", 2, 1, 3, 0, 1);
        joins("?d", "!a!b!c", 1, 1, 2, 8);
        joins("?d", "!a!b!c", 2, 1, 3, 8, 9);
        // one queue each way, and one of them full does not fill the other one
        joins("!a?b", "!b?a", 1, 0, 7);
        joins("!a", "!b", 1, 1, 4, 0, 9);
    }

    private static void stuckByQueues() {
        says("Terms", "STUCK: nothing can be said or heard, and not both MAY END with both queues empty.");
        for (int k = 1; k <= 2; k++) {
            joins("0", "0", k, 0, 1);
            joins("{?a}", "{?b}", k, 0, 1);
            joins("?a", "?a", k, 1, 1);
            joins("?a", "0", k, 1, 1);
            joins("0", "?a", k, 1, 1);
            joins("!a", "0", k, 1, 2, 0);
            joins("0", "!a", k, 1, 2, 8);
            joins("?a?b", "!a", k, 1, 3, 8, 16);
            joins("!a", "?a?b", k, 1, 3, 0, 17);
        }
        joins("{!a}", "0", 1, 1, 2, 0);
        joins("{!a}", "0", 2, 1, 3, 0, 0);
        joins("?a", "{!a}", 1, 1, 4, 8, 16, 8);
    }

    private static void places() {
        says("Terms", "WALKED are STATES of both with what is in the queues;");
        joins("{(!a|!b)}", "0", 1, 1, 3, 0);
        joins("{(!a|!b)}", "0", 2, 1, 7, 0, 0);
        joins("0", "{(!a|!b)}", 1, 1, 3, 8);
        joins("0", "{(!a|!b)}", 2, 1, 7, 8, 8);
        joins("{(!a|!b)}", "{(!a|!b)}", 2, 1, 49, 0, 0, 8, 8);
        joins(SAYS_ALL, SAYS_ALL, 1, 1, 81, 0, 8);
        joins(SAYS_SEVEN, SAYS_SEVEN, 2, 1, 57 * 57, 0, 0, 8, 8);
    }

    private static void spent() {
        says("Terms", "if there are above 4000 of these: SPENT, and no FAULT is told.");
        joins(SAYS_SEVEN, SAYS_ALL, 2, 3, 4000);
        joins(SAYS_ALL, SAYS_ALL, 2, 3, 4000);
        // just 4000, with a fault, and 4001
        joins("{(?g(?f|?h|!d!b|?b|!a|!h|?g)|!e|!c|?d|!g!b)}?c", "{(!c|!e|!g|?a|!f)}", 2, 1, 4000, 2, 2, 12, 10);
        joins("{(?f!h|?a|?e(!e?g|!a|!c|!d)|!h|!d|?g|!c(?d|!c|?g))}", "{(!g|!b|!d{(?g|?c!e|?h)}|?f|!h)}", 2, 3, 4000);
    }

    private static void firstActs() {
        says("Terms", "THE FAULT: likewise by acts in this order: a says a to h, b says a to h, a hears, b hears.");
        joins("(!b|!a)", "0", 1, 1, 3, 0);
        joins("(!h|!g)", "0", 1, 1, 3, 6);
        joins("0", "(!h|!a)", 1, 1, 3, 8);
        joins("0", "(!h|!g)", 1, 1, 3, 14);
        joins("(!h|?a?b)", "!a", 1, 1, 5, 7, 8);
        joins("!a", "(!h|?a?b)", 1, 1, 5, 0, 15);
        joins("?a?c", "!a!h", 2, 1, 5, 8, 15, 16);
        joins("!a?b", "!b?a?c", 1, 1, 7, 0, 9, 16, 17);
        // fewest acts ahead of all that
        joins("(!a!b!c|!d)", "?a?b?e", 1, 1, 7, 3);
    }

    private static void fit(String one, String other, int want) {
        due("fit() of " + one + " for " + other, withTalks(one, other).fit(0, 1), want);
    }

    private static void fits() {
        says("Terms", "STATE p of x is FIT for STATE q of y, if (all at once, as far as it can be):");
        fit("{?a}", "{?a}", 1);
        fit("{(?a|?b)}", "{?a}", 1);
        fit("{!a}", "{(!a|!b)}", 1);
        fit("{?a!b}?c", "{?a!b?a!b}?c", 1);
        fit("?a?a?a!b", "?a?a?a!c", 0);
        fit("{?a!b}", "{?a!b(0|?c)}", 0);
        says("Terms", "each MESSAGE heard next at q is heard next at p,");
        fit("(?a|?b)", "?a", 1);
        fit("?a", "(?a|?b)", 0);
        fit("{?h}", "0", 1);
        fit("0", "{?h}", 0);
        says("Terms", "each MESSAGE said next at p is said next at q,");
        fit("!a", "(!a|!b)", 1);
        fit("(!a|!b)", "!a", 0);
        fit("{(?a|!h)}", "{?a}", 0);
        says("Terms", "what follows being FIT again;");
        fit("?a!b", "?a!b", 1);
        fit("?a!b", "?a!c", 0);
        fit("!a?b", "!a?c", 0);
        fit("?a(?b|?c)", "?a?b", 1);
        fit("?a?b", "?a(?b|?c)", 0);
        // of what is heard, or said, by one of them alone nothing is asked
        fit("(?a|?b!c)", "?a", 1);
        fit("!a", "(!a|!b?c)", 1);
        says("Terms", "if nothing is said at p, then nothing at q;");
        fit("?a", "(?a|!b)", 0);
        fit("{?a}", "{(?a|!b)}", 0);
        fit("(?a|!b)", "(?a|!b|!c)", 1);
        fit("?a", "?a", 1);
        says("Terms", "and p MAY END just if q MAY.");
        fit("(0|?a)", "?a", 0);
        fit("?a", "(0|?a)", 0);
        fit("?a{?b}", "?a?b", 0);
        fit("?a{?b}", "?a", 1);
        says("Terms", "x is FIT for y, if STATE 0 is for STATE 0.");
        fit("?b?a", "?a", 0);
        due("though STATE 1 is", withTalks("?b?a", "?a").swap(0, 1, 0), 1);
        fit("0", "0", 1);
    }

    /** All adapters, each as the texts of what a's messages become. */
    private static void adapts(String a, String b, String messages, String... made) {
        HelperWeave x = withTalks(a, b);
        due("adapters() of " + a + " to " + b, x.adapters(0, 1), made.length);
        for (int i = 0; i < made.length; i++) {
            for (int k = 0; k < messages.length(); k++) {
                due("adapter " + i + " of " + a + " to " + b + ", " + messages.charAt(k),
                    x.adapter(0, 1, i, messages.charAt(k) - 'a'), made[i].charAt(k) - 'a');
            }
        }
    }

    private static void adapting() {
        says("Terms", "ADAPTERS of a to b: ways to put unlike MESSAGES in place of those in a (5 at most of them),");
        adapts("!a!b", "?c?c", "ab");
        adapts("!a!a", "?c?c", "a", "c");
        adapts("!a!b", "(?c|?d)(?c|?d)", "ab", "cd", "dc");
        adapts("!h", "(?a|?h)", "h", "a", "h");
        due("five", withTalks(FIVE, HEARS_ALL).adapters(0, 1), 8 * 7 * 6 * 5 * 4);
        due("five, heard and said", withTalks("?a!a?b!b?c!c?d!d?e!e", "!d?d!e?e!f?f!g?g!h?h").adapters(0, 1), 1);
        due("six", withTalks(SIX, HEARS_ALL).adapters(0, 1), O);
        adapts("0", "0", "", "");
        says("Terms", "so that JOINED at once there is no FAULT;");
        adapts("!a", "?c", "a", "c");
        adapts("!a", "0", "a");
        adapts("?a", "?a", "a");
        adapts("0", "?a", "");
        adapts("0", "!a", "");
        adapts("0", "{?a}", "", "");
        adapts("(!a|!b)", "?a", "ab");
        adapts("?a!b", "!c", "ab");
        adapts("?a!b", "!c?d?e", "ab");
        adapts("?a!b", "!c?d{?e}", "ab", "cd");
        adapts("?a?b", "!c!c", "ab");
        adapts("!a!b", "(?a|?b)(?a|?b)!a", "ab");
        // faults that are far away, behind what becomes a, and beside a loop
        adapts("?b!c", "!a?d?e", "bc");
        adapts("!b!c", "?a?d?e", "bc");
        adapts("(!a!c|!b{!b})", "(?a|?b{?b})", "abc");
        adapts("(!a!c|!b{!b})", "(?a?d|?b{?b})", "abc", "abd");
        adapts("(!a!c|!b{!b})", "(?a?d|?b{?b?b})", "abc", "abd");
        adapts("({!a}!b|!c!d)", "({?a}?b|?c)", "abcd");
        // a way that fails leaves nothing behind for the next one
        adapts("(!a!a|!b!b)", "(?a?a|?b?b|?c?d)", "ab", "ab", "ba");
        says("Terms", "in order by what a's least MESSAGE becomes, then its next one, and so on.");
        adapts("!a", "(?h|?c|?a)", "a", "a", "c", "h");
        adapts("!b!a", "(?a|?c)(?d|?b)", "ab", "ba", "bc", "da", "dc");
        adapts("!h(!a|!g)", "(?b|?a)(?c|?d)", "agh", "cda", "cdb", "dca", "dcb");
    }

    private static void joinTold() {
        says("10", "`int join(int a, int b, int k)`: Two TALKS JOINED, at once (k 0) or BY QUEUES of k: 0 no FAULT, "
            + "1 it is STUCK, 2 UNHEARD, 3 SPENT.");
        HelperWeave x = withTalks("!a!b", "?a?b", "?b?a", SAYS_ALL, "?a");
        for (int k = 0; k <= 2; k++) {
            due("no FAULT, " + k, x.join(0, 1, k), 0);
            due("STUCK, " + k, x.join(1, 2, k), 1);
            due("UNHEARD or STUCK, " + k, x.join(0, 2, k), k == 0 ? 2 : 1);
            due("SPENT, " + k, x.join(3, 3, k), k == 0 ? 2 : k == 1 ? 1 : 3);
            due("the last TALK, " + k, x.join(4, 0, k), k == 0 ? 2 : 1);
        }
    }

    private static void joinRefused() {
        says("10", "UNKNOWN: a, b;");
        HelperWeave x = withTalks("!a", "?a?b");
        for (int t : new int[] {-1, 2, 6, MIN, MAX}) {
            due("a " + t, x.join(t, 0, 0), U);
            due("b " + t, x.join(0, t, 0), U);
            due("ahead of OUTSIDE", x.join(t, 0, 3), U);
            due("ahead of OUTSIDE", x.join(0, t, -1), U);
        }
        says("10", "OUTSIDE: k;");
        for (int k : new int[] {-1, 3, MIN, MAX}) {
            due("k " + k, x.join(0, 1, k), O);
        }
        due("none was done", x.count(4), 0);
        says("10", "STATE: with k above 0 it was done 20 times.");
        for (int i = 0; i < 20; i++) {
            due("by queues", x.join(0, 1, 1 + i % 2), 1);
            due("at once, which does not count", x.join(0, 1, 0), 1);
            due("refused, which does not count", x.join(0, 2, 1), U);
            due("refused, which does not count", x.join(0, 1, 3), O);
            due("how often", x.count(4), i + 1);
        }
        due("of 1", x.join(0, 1, 1), S);
        due("of 2", x.join(1, 0, 2), S);
        due("UNKNOWN ahead of it", x.join(2, 0, 1), U);
        due("OUTSIDE ahead of it", x.join(0, 0, 3), O);
        due("at once all the same", x.join(0, 1, 0), 1);
        due("how often", x.count(4), 20);
        HelperWeave y = withTalks(SAYS_ALL, SAYS_ALL);
        for (int i = 0; i < 20; i++) {
            due("SPENT counts too", y.join(0, 1, 2), 3);
        }
        due("the 21st", y.join(0, 1, 2), S);
    }

    private static void walkedTold() {
        says("11", "`int walked()`: Of the latest join(): how many were WALKED (of a FAULT all the same; SPENT: 4000);");
        joins("(!a|!b)!c", "?a?c", 0, 2, 3);
        joins("(!d|!a!b!c)", "?a?b?c", 0, 2, 4);
        joins("(!b|!a)!c", "?a?c", 1, 1, 6, 1);
        joins(SAYS_ALL, SAYS_ALL, 2, 3, 4000);
        HelperWeave x = withTalks("!a", "?a", "?a?b");
        x.join(0, 2, 0);
        due("two pairs", x.walked(), 2);
        x.join(0, 2, 1);
        due("three places", x.walked(), 3);
        x.join(0, 7, 0);
        x.fit(0, 0);
        x.adapters(0, 2);
        due("of join() alone, and not of a refused one", x.walked(), 3);
        x.join(1, 1, 0);
        due("of the latest", x.walked(), 1);
        says("11", "0 ahead of any.");
        HelperWeave y = withTalks("!a");
        due("ahead of any", y.walked(), 0);
        due("refused", y.join(0, 1, 0), U);
        due("ahead of any still", y.walked(), 0);
    }

    private static void traceTold() {
        says("12", "`int trace(int i)`: The i-th of the passes, or acts, to the FAULT of the latest join(): of passes 2 m, "
            + "and 1 if b says it;");
        joins("!a!h", "?a", 0, 2, 2, 0);
        joins("?a!h", "!a", 0, 2, 2, 1);
        joins("!h!h", "?h", 0, 2, 2, 14);
        joins("?h!h", "!h", 0, 2, 2, 15);
        joins("!c?d!e!f", "?c!d?e", 0, 2, 4, 4, 7, 8);
        HelperWeave x = withTalks("!a!b", "?a", "?a?b", SAYS_ALL);
        x.join(0, 1, 0);
        x.join(0, 2, 0);
        due("of the latest", x.trace(0), N);
        x.join(0, 1, 0);
        x.join(0, 9, 0);
        due("not of a refused one", x.trace(0), 0);
        says("12", "of acts 0 to 7 a says m, 8 to 15 b says m, 16 a hears, 17 b hears;");
        joins("!a", "0", 1, 1, 2, 0);
        joins("!h", "0", 1, 1, 2, 7);
        joins("0", "!a", 1, 1, 2, 8);
        joins("0", "!h", 1, 1, 2, 15);
        joins("?h?b", "!h", 1, 1, 3, 15, 16);
        joins("!h", "?h?b", 1, 1, 3, 7, 17);
        says("12", "NONE.");
        for (int i : new int[] {-1, 1, 2, MIN, MAX}) {
            due("trace(" + i + ")", x.trace(i), N);
        }
        x.join(0, 2, 1);
        due("no FAULT", x.trace(0), N);
        x.join(3, 3, 2);
        due("SPENT", x.trace(0), N);
        x.join(3, 3, 0);
        due("a FAULT at first", x.trace(0), N);
        due("ahead of any", new HelperWeave().trace(0), N);
    }

    private static void fitTold() {
        says("13", "`int fit(int x, int y)`: Whether x is FIT for y: 1, 0.");
        HelperWeave x = withTalks("(?a|?b)", "?a");
        due("it is", x.fit(0, 1), 1);
        due("it is not", x.fit(1, 0), 0);
        due("for itself", x.fit(1, 1), 1);
        fit("?a".repeat(24), "?a".repeat(24), 1);
        fit("?a".repeat(24), "?a".repeat(23), 0);
        says("13", "UNKNOWN.");
        for (int t : new int[] {-1, 2, MIN, MAX}) {
            due("x " + t, x.fit(t, 0), U);
            due("y " + t, x.fit(0, t), U);
        }
    }

    private static void swapTold() {
        says("14", "`int swap(int x, int y, int q)`: The least STATE of x that is FIT for STATE q of y;");
        HelperWeave x = withTalks("?a?b?a", "?a", "{?a}", "?a".repeat(24), "!c");
        due("0", x.swap(0, 0, 0), 0);
        due("the third", x.swap(0, 1, 0), 2);
        due("the last", x.swap(0, 1, 1), 3);
        due("the least of two", x.swap(2, 2, 1), 0);
        due("STATE 24", x.swap(3, 1, 1), 24);
        due("for STATE 24", x.swap(1, 3, 24), 1);
        due("for STATE 23", x.swap(1, 3, 23), 0);
        says("14", "NONE.");
        due("of none", x.swap(1, 0, 0), N);
        due("of none, for another sign", x.swap(0, 4, 0), N);
        says("14", "UNKNOWN: x, y, q.");
        for (int t : new int[] {-1, 5, MIN, MAX}) {
            due("x " + t, x.swap(t, 1, 0), U);
            due("y " + t, x.swap(0, t, 0), U);
        }
        for (int q : new int[] {-1, 2, 3, MIN, MAX}) {
            due("q " + q, x.swap(0, 1, q), U);
        }
        due("q is y's", x.swap(1, 0, 3), 1);
        due("q is not x's", x.swap(0, 1, 3), U);
        due("behind STATE 24", x.swap(0, 3, 25), U);
    }

    private static void adaptersTold() {
        says("15", "`int adapters(int a, int b)`: How many ADAPTERS there are.");
        due("none", withTalks("!a", "0").adapters(0, 1), 0);
        due("one", withTalks("!a", "?b").adapters(0, 1), 1);
        due("of nothing", withTalks("0", "0").adapters(0, 1), 1);
        due("what b never says may be anything", withTalks("(?f|?g)", "!h").adapters(0, 1), 14);
        due("all", withTalks(FIVE, HEARS_ALL).adapters(0, 1), 6720);
        due("b may have more than 5", withTalks("!h", HEARS_ALL).adapters(0, 1), 8);
        HelperWeave x = withTalks("(!a|?a)", "(?c|!c)", "?c?d", "{?a}");
        due("to itself", x.adapters(0, 0), 1);
        due("to another one", x.adapters(0, 1), 1);
        due("what it becomes", x.adapter(0, 1, 0, 0), 2);
        due("to a third one", x.adapters(0, 2), 0);
        due("of a third one", x.adapters(2, 0), 0);
        due("of a fourth one", x.adapters(3, 3), 8);
        due("to the other one again", x.adapters(0, 1), 1);
    }

    private static void adaptersRefused() {
        says("15", "UNKNOWN: a, b;");
        HelperWeave x = withTalks("!a", "?b", SIX, HEARS_ALL, "?a?b?c!d!e!f");
        for (int t : new int[] {-1, 5, 6, MIN, MAX}) {
            due("a " + t, x.adapters(t, 0), U);
            due("b " + t, x.adapters(0, t), U);
            due("ahead of OUTSIDE", x.adapters(2, t), U);
        }
        says("15", "OUTSIDE: a has more than 5 MESSAGES;");
        due("six", x.adapters(2, 1), O);
        due("six, three of them heard", x.adapters(4, 1), O);
        due("eight", x.adapters(3, 1), O);
        due("none was done", x.count(5), 0);
        says("15", "STATE: it was done 20 times with adapter().");
        doTwenty(x);
        due("the 21st", x.adapters(0, 1), S);
        due("of another pair", x.adapters(1, 0), S);
        due("UNKNOWN ahead of it", x.adapters(5, 0), U);
        due("OUTSIDE ahead of it", x.adapters(2, 1), O);
        due("how often", x.count(5), 20);
    }

    /** Twenty of adapters() and adapter(), those that find none too, and between them some that are refused. */
    private static void doTwenty(HelperWeave x) {
        for (int i = 0; i < 10; i++) {
            due("adapters()", x.adapters(0, 1), 1);
            due("refused, which does not count", x.adapters(2, 1), O);
            due("how often", x.count(5), 2 * i + 1);
            due("adapter()", x.adapter(0, 1, i % 2, 0), i % 2 == 0 ? 1 : N);
            due("refused, which does not count", x.adapter(0, 1, 0, 8), O);
            due("how often", x.count(5), 2 * i + 2);
        }
    }

    private static void adapterTold() {
        says("16", "`int adapter(int a, int b, int i, int m)`: What MESSAGE m becomes by the i-th ADAPTER;");
        HelperWeave x = withTalks("!a!h", HEARS_ALL, FIVE);
        due("a by the first", x.adapter(0, 1, 0, 0), 0);
        due("h by the first", x.adapter(0, 1, 0, 7), 1);
        due("h by the seventh", x.adapter(0, 1, 6, 7), 7);
        due("a by the eighth", x.adapter(0, 1, 7, 0), 1);
        due("h by the eighth", x.adapter(0, 1, 7, 7), 0);
        due("a by the last", x.adapter(0, 1, 55, 0), 7);
        due("h by the last", x.adapter(0, 1, 55, 7), 6);
        due("the last of all", x.adapter(2, 1, 6719, 4), 3);
        due("the first of all", x.adapter(2, 1, 0, 4), 4);
        says("16", "NONE: there is none, or a has no such MESSAGE.");
        due("behind the last", x.adapter(0, 1, 56, 0), N);
        due("behind the last of all", x.adapter(2, 1, 6720, 0), N);
        for (int i : new int[] {-1, MIN, MAX}) {
            due("i " + i, x.adapter(0, 1, i, 0), N);
        }
        due("b's alone", x.adapter(0, 1, 0, 1), N);
        due("b's alone, the last but one", x.adapter(0, 1, 0, 6), N);
        due("of nothing", withTalks("0", "0").adapter(0, 0, 0, 0), N);
        due("they count", x.count(5), 16);
    }

    private static void adapterRefused() {
        says("16", "UNKNOWN;");
        HelperWeave x = withTalks("!a", "?b", SIX);
        for (int t : new int[] {-1, 3, 6, MIN, MAX}) {
            due("a " + t, x.adapter(t, 0, 0, 0), U);
            due("b " + t, x.adapter(0, t, 0, 0), U);
            due("ahead of OUTSIDE", x.adapter(2, t, 0, 8), U);
        }
        says("16", "OUTSIDE: as adapters(), or m;");
        due("six", x.adapter(2, 1, 0, 0), O);
        for (int m : new int[] {-1, 8, MIN, MAX}) {
            due("m " + m, x.adapter(0, 1, 0, m), O);
            due("m " + m + ", of none", x.adapter(0, 1, 9, m), O);
        }
        due("none was done", x.count(5), 0);
        says("16", "STATE.");
        doTwenty(x);
        due("the 21st", x.adapter(0, 1, 0, 0), S);
        due("of none", x.adapter(0, 1, 9, 0), S);
        due("UNKNOWN ahead of it", x.adapter(0, 3, 0, 0), U);
        due("OUTSIDE ahead of it", x.adapter(2, 1, 0, 0), O);
        due("OUTSIDE by m ahead of it", x.adapter(0, 1, 0, 8), O);
        due("how often", x.count(5), 20);
    }
}
