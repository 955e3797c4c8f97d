/** Sentences of "1 TALKS", of the page, and of promises 1 to 9. */
final class TalkEdges extends Edges {
    private static final String A = "aaaaaaaa";

    static void all() {
        sixTalks();
        calls();
        pieces();
        messages();
        choices();
        loops();
        nothing();
        steps();
        states();
        following();
        ending();
        twofold();
        newObject();
        letters();
        lettersOutside();
        lettersFull();
        blank();
        good();
        talkRead();
        talkRefused();
        stepsTold();
        nextTold();
        endsTold();
        usesTold();
    }

    private static void sixTalks() {
        says("What it is", "TALKS (6 at most, numbered as they come)");
        HelperWeave x = new HelperWeave();
        for (int t = 0; t < 6; t++) {
            due("talk " + t, talk(x, "?" + (char) ('a' + t)), t);
        }
        due("a seventh", talk(x, "?g"), F);
        due("how many", x.count(0), 6);
        for (int t = 0; t < 6; t++) {
            due("talk " + t + " is the one that came so", x.uses(t, 0), 1 << t);
        }
    }

    private static void calls() {
        says("What it is", "An object is used for at most 512 calls after it has been made;");
        HelperWeave x = new HelperWeave();
        for (int call = 1; call <= 511; call++) {
            due("call " + call, call % 2 == 0 ? x.blank() : x.letters('?'), 1);
        }
        due("the 512th call", x.good(), 1);
    }

    private static void pieces() {
        says("What it is", "are texts of PIECES, one behind the other, one at least:");
        reads("", S);
        reads("?a", 0);
        reads("(|?a)", S);
        reads("(?a|)", S);
        reads("(?a||?b)", S);
        reads("{}", S);
        isMachine("?a!b0(?c|!d){?e}", "000111", "?a1", "!b2", "?c3!d4", "?e5", "?e5", "?e5");
    }

    private static void messages() {
        says("Terms", "\"?\" or \"!\" and a MESSAGE, a to h (it is heard, said);");
        for (int code = 1; code <= 126; code++) {
            boolean named = code >= 'a' && code <= 'h';
            for (String sign : new String[] {"?", "!"}) {
                String text = sign + (char) code;
                isGood(text, named ? 2 : 1);
                HelperWeave x = pageOf(text);
                due("talk() of '" + text + "'", x.talk(), named ? 0 : S);
                due("heard", x.uses(0, 0), !named ? U : sign.equals("?") ? 1 << code - 'a' : 0);
                due("said", x.uses(0, 1), !named ? U : sign.equals("!") ? 1 << code - 'a' : 0);
            }
            String alone = "" + (char) code;
            isGood(alone, "?!0({".indexOf(code) >= 0 ? 1 : 0);
            reads(alone, code == '0' ? 0 : S);
        }
    }

    private static void choices() {
        says("Terms", "\"(\" TALK \"|\" TALK .. \")\": one of them (two at least);");
        reads("(?a)", S);
        isGood("(?a)", 3);
        reads("((?a|?b))", S);
        isGood("((?a|?b))", 8);
        reads("()", S);
        reads("?a|?b", S);
        isGood("?a|?b", 2);
        isGood("(?a|?b}", 6);
        isMachine("(?a|?b)", "011", "?a1?b2", "", "");
        isMachine("(?a|?b|!a)!h", "00001", "?a1?b2!a3", "!h4", "!h4", "!h4", "");
        isMachine("(?a|?b)(?c|?d)?e", "000001", "?a1?b2", "?c3?d4", "?c3?d4", "?e5", "?e5", "");
        isMachine("(0|?a)(?b|?c)", "0011", "?a1?b2?c3", "?b2?c3", "", "");
        isGood("(?a|?b)(?c)", 10);
        isGood("(0|(?a|?b))((?c))", 15);
        reads("(" + "0|".repeat(38) + "0)", 0);
        isMachine("(?a|?b|?c|?d|?e|?f|?g|?h|!a|!b|!c|!d|!e|!f|!g|!h)", "01111111111111111",
            "?a1?b2?c3?d4?e5?f6?g7?h8!a9!b10!c11!d12!e13!f14!g15!h16",
            "", "", "", "", "", "", "", "", "", "", "", "", "", "", "", "");
    }

    private static void loops() {
        says("Terms", "\"{\" TALK \"}\": so many times as may be, none too;");
        isMachine("{?a}", "11", "?a1", "?a1");
        isMachine("{?a!b}!c", "0001", "?a1!c3", "!b2", "?a1!c3", "");
        isMachine("{{?a}}", "11", "?a1", "?a1");
        isMachine("{{?a}!b}", "101", "?a1!b2", "?a1!b2", "?a1!b2");
        isMachine("{0}", "1", "");
        isMachine("{(0|?a)}", "11", "?a1", "?a1");
        reads("{?a|?b}", S);
        isGood("{?a|?b}", 3);
        reads("{?a)", S);
        reads("{?a", S);
        reads("{?a}}", S);
    }

    private static void nothing() {
        says("Terms", "\"0\": nothing.");
        isMachine("0", "1", "");
        isMachine("00", "1", "");
        isMachine("0?a0", "01", "?a1", "");
        isMachine("(0|0)", "1", "");
        isMachine("?a(0|!b)?c", "0001", "?a1", "?c3!b2", "?c3", "");
        reads("0".repeat(80), 0);
    }

    private static void steps() {
        says("Terms", "Each MESSAGE in it is a STEP, numbered from 1 by place; there are 24 at most.");
        isMachine("(!c|{?b(?a|!a)})!h", "000001", "?b2!c1!h5", "!h5", "?a3!a4", "?b2!h5", "?b2!h5", "");
        for (int many = 23; many <= 26; many++) {
            HelperWeave x = pageOf("?a".repeat(many));
            due("talk() of " + many + " steps", x.talk(), many <= 24 ? 0 : O);
            due("steps() of " + many + " steps", x.steps(0), many <= 24 ? many : U);
        }
        reads("{" + "?a!a".repeat(12) + "}", 0);
        reads("(0|" + "?a".repeat(25) + ")", O);
    }

    private static void states() {
        says("Terms", "STATES: 0, and each STEP (just done).");
        HelperWeave x = withTalks("0", "?a?b", "?a".repeat(24));
        int[] steps = {0, 2, 24};
        for (int t = 0; t < 3; t++) {
            due("STATE -1 of " + t, x.ends(t, -1), U);
            due("STATE 0 of " + t, x.ends(t, 0), t == 0 ? 1 : 0);
            due("the last STATE of " + t, x.ends(t, steps[t]), 1);
            due("one more STATE of " + t, x.ends(t, steps[t] + 1), U);
        }
        for (int state = 0; state < 24; state++) {
            due("the STEP behind " + state, x.next(2, state, 0, 0), state + 1);
        }
        due("none behind the last one", x.next(2, 24, 0, 0), N);
    }

    private static void following() {
        says("Terms", "From STATE i on STEP j may be next, if j may be the first STEP (i 0), or may come right "
            + "behind i in some course of the TALK;");
        isMachine("(0|?a){!b}?c", "0001", "?a1?c3!b2", "?c3!b2", "?c3!b2", "");
        isMachine("{?a!b(0|?c)}", "1011", "?a1", "!b2", "?a1?c3", "?a1");
        isMachine("{?a}{?b}{?c}", "1111", "?a1?b2?c3", "?a1?b2?c3", "?b2?c3", "?c3");
        isMachine("{{?a}{?b}}", "111", "?a1?b2", "?a1?b2", "?a1?b2");
        isMachine("?a!a?a!a", "00001", "?a1", "!a2", "?a3", "!a4", "");
    }

    private static void ending() {
        says("Terms", "STATE i MAY END, if a course may end there.");
        isMachine("?a", "01", "?a1", "");
        isMachine("?a{!b}", "011", "?a1", "!b2", "!b2");
        isMachine("(0|?a)(0|?b)", "111", "?a1?b2", "?b2", "");
        isMachine("?a(!b|!c!d)", "00101", "?a1", "!b2!c3", "", "!d4", "");
        isMachine("{?a}!b", "001", "?a1!b2", "?a1!b2", "");
    }

    private static void twofold() {
        says("Terms", "A TALK is TWOFOLD, if from some STATE two STEPS of the same sign and MESSAGE may be next.");
        reads("(?a|?a)", O);
        reads("(!h|!h)", O);
        reads("(?a|!a)", 0);
        reads("(?a|?b)", 0);
        reads("?a?a", 0);
        reads("(?a|0)?a", O);
        reads("{?a}?a", O);
        reads("?a{?a}", 0);
        // only behind the first, only round a loop, only from the last of the steps
        reads("?b(?a|?a)", O);
        reads("{!b?a(0|!b)}", O);
        reads("{?a!b(0|?a)}", O);
        reads("{?a!b(0|?c)}", 0);
        reads("{!a}{?b}{!a}", O);
        reads("?a".repeat(22) + "(!h|!h)", O);
        reads("?a".repeat(22) + "(!h|!g)", 0);
    }

    private static void newObject() {
        says("1", "`HelperWeave()`: Nothing is there;");
        HelperWeave x = new HelperWeave();
        for (int what = 0; what < 8; what++) {
            due("count(" + what + ")", x.count(what), 0);
        }
        due("blank()", x.blank(), 0);
        due("good()", x.good(), 0);
        due("talk()", x.talk(), S);
        due("steps(0)", x.steps(0), U);
        due("join(0, 0, 0)", x.join(0, 0, 0), U);
        due("walked()", x.walked(), 0);
        due("trace(0)", x.trace(0), N);
        due("about(0, 0)", x.about(0, 0), U);
        due("put(0)", x.put(0), U);
        due("empty()", x.empty(), 0);
        due("at(0)", x.at(0), N);
        due("costs()", x.costs(), 0);
        due("strike()", x.strike(), S);
        due("broken()", x.broken(), 0);
        for (int f = 0; f < 12; f++) {
            due("level of " + f, x.level(f, 0), 0);
        }
        says("1", "THE LOG begins with no FACTS.");
        due("worlds(0)", x.worlds(0), 1);
        due("world(0)", x.world(0), 0);
        due("world(1)", x.world(1), N);
        due("held(0)", x.held(0), 0);
        due("held(1)", x.held(1), 0);
    }

    private static void letters() {
        says("2", "`int letters(long w)`: Letters come behind THE PAGE, up to eight, told by their codes in the bytes "
            + "of w, the lowest byte first, until a byte that is 0: how many THE PAGE has.");
        for (int many = 0; many <= 8; many++) {
            HelperWeave x = pageOf("?a!");
            due(many + " letters", x.letters(Check.packed("b!c!d!e!f".substring(0, many), 0)), 3 + many);
            due("behind the three", x.good(), 3 + many);
        }
        due("the lowest first", goodBehind(new HelperWeave(), 'a' << 8 | '?'), 2);
        due("the highest not first", goodBehind(new HelperWeave(), '?' << 8 | 'a'), 0);
        due("the lowest code", new HelperWeave().letters(1), 1);
        due("all codes are kept", pageOf("\1\2~").digest() == pageOf("\1\2}").digest() ? 1 : 0, 0);
        HelperWeave x = pageOf("?a");
        due("none", x.letters(0), 2);
        due("none changes nothing", x.good(), 2);
    }

    private static int goodBehind(HelperWeave x, long w) {
        x.letters(w);
        return x.good();
    }

    private static void lettersOutside() {
        says("2", "OUTSIDE: a byte above 126,");
        for (int at = 0; at < 8; at++) {
            long rest = Check.packed(A, 0) & ~(255L << 8 * at);
            due("126 at " + at, pageOf("?a").letters(rest | 126L << 8 * at), 10);
            for (long code = 127; code <= 255; code++) {
                HelperWeave x = pageOf("?a");
                due(code + " at " + at, x.letters(rest | code << 8 * at), O);
                due("nothing came", x.count(1), 2);
            }
        }
        due("all", pageOf("").letters(-1), O);
        due("the least of all", pageOf("").letters(Long.MIN_VALUE), O);
        says("2", "or one behind a 0 that is not 0;");
        for (int zero = 0; zero < 7; zero++) {
            for (int at = zero + 1; at < 8; at++) {
                long w = Check.packed(A.substring(0, zero), 0) | 1L << 8 * at;
                HelperWeave x = pageOf("?a");
                due("a 0 at " + zero + " and 1 at " + at, x.letters(w), O);
                due("nothing came", x.count(1), 2);
            }
        }
        due("the 0 is not the last one", pageOf("").letters(0x6100610000006161L), O);
    }

    private static void lettersFull() {
        says("2", "FULL: above 80.");
        for (int had = 72; had <= 80; had++) {
            for (int more = 0; more <= 8; more++) {
                HelperWeave x = pageOf("0".repeat(had));
                boolean fits = had + more <= 80;
                due(had + " and " + more, x.letters(Check.packed(A.substring(0, more), 0)), fits ? had + more : F);
                due("then there are", x.count(1), fits ? had + more : had);
                due("none of those that do not fit", x.good(), had);
            }
        }
        due("OUTSIDE ahead of FULL", pageOf("0".repeat(80)).letters(127), O);
        due("OUTSIDE behind a 0 ahead of FULL", pageOf("0".repeat(80)).letters(0x610061), O);
    }

    private static void blank() {
        says("3", "`int blank()`: THE PAGE is empty: how many letters it had.");
        for (int had : new int[] {0, 1, 79, 80}) {
            HelperWeave x = pageOf("(".repeat(had));
            due("it had " + had, x.blank(), had);
            due("none now", x.count(1), 0);
            due("none is good", x.good(), 0);
            due("blank again", x.blank(), 0);
            due("behind nothing", x.letters('0'), 1);
            due("a talk of what came then", x.talk(), 0);
        }
    }

    private static void good() {
        says("4", "`int good()`: How many letters of THE PAGE begin some TALK of any length");
        isGood("", 0);
        isGood("x?a", 0);
        isGood("?", 1);
        isGood("?a|", 2);
        isGood("?ax", 2);
        isGood("(?a|?b", 6);
        isGood("{(?a|{!b", 8);
        isGood("(".repeat(80), 80);
        isGood("{".repeat(80), 80);
        isGood("(".repeat(79) + ")", 79);
        isGood("?a".repeat(39) + "?i", 79);
        isGood("(0|".repeat(20) + "0" + ")".repeat(19), 80);
        isGood("{".repeat(39) + "?a" + "}".repeat(39), 80);
        isGood("{".repeat(39) + "?a" + "}".repeat(38) + ")", 79);
        HelperWeave x = pageOf("?a)");
        due("once", x.good(), 2);
        due("and again", x.good(), 2);
        due("THE PAGE stays", x.count(1), 3);
        for (String open : new String[] {"?", "{(?a|", "(?a|{!"}) {
            x.blank();
            Check.write(x, open);
            due("of an open one", x.good(), open.length());
            due("of an open one again", x.good(), open.length());
            due("which is no TALK", x.talk(), S);
            x.blank();
            due("of none", x.good(), 0);
            Check.write(x, "(0|?a)?b");
            due("of another one", x.good(), 8);
        }
        due("which is a TALK", x.talk(), 0);
        says("4", "(its STEPS not counted).");
        isGood("?a".repeat(24), 48);
        isGood("?a".repeat(25), 50);
        isGood("?a".repeat(40), 80);
        isGood("(?a|?a)", 7);
    }

    private static void talkRead() {
        says("5", "`int talk()`: THE PAGE is read as a TALK: its number; THE PAGE is empty then.");
        HelperWeave x = pageOf("?a");
        due("the first", x.talk(), 0);
        due("no letters", x.count(1), 0);
        due("no TALK on it", x.talk(), S);
        Check.write(x, "!b");
        due("the second", x.talk(), 1);
        due("none of the first in it", x.uses(1, 0), 0);
        due("no letters again", x.blank(), 0);
        due("how many", x.count(0), 2);
    }

    /** Talks read before it must be there as told; THE PAGE stays. */
    private static void refuses(int talks, String text, int want) {
        HelperWeave x = new HelperWeave();
        for (int t = 0; t < talks; t++) {
            talk(x, "!h");
        }
        Check.write(x, text);
        String name = "'" + text + "' behind " + talks + " TALKS";
        due("talk() of " + name, x.talk(), want);
        due("THE PAGE behind " + name, x.count(1), text.length());
        due("TALKS behind " + name, x.count(0), talks);
        due("no number behind " + name, x.steps(talks), U);
        due("once more, " + name, x.talk(), want);
    }

    private static void talkRefused() {
        String[] none = {"", "?", "?a(", "{?a", "(?a|?b", "?a)", "(?a)", "?a ", "x", "{?a}}"};
        String[] twofold = {"(?a|?a)", "{?a}?a"};
        String[] long25 = {"?a".repeat(25), "?a".repeat(40), "{" + "!b".repeat(25) + "}"};
        says("5", "STATE: it is none;");
        for (String text : none) {
            refuses(0, text, S);
            refuses(6, text, S);
        }
        refuses(0, "?a".repeat(25) + ")", S);
        refuses(0, "(?a|?a", S);
        says("5", "OUTSIDE: it is TWOFOLD,");
        for (String text : twofold) {
            refuses(0, text, O);
            refuses(6, text, O);
        }
        says("5", "or has more than 24 STEPS;");
        for (String text : long25) {
            refuses(0, text, O);
            refuses(6, text, O);
        }
        reads("?a".repeat(24), 0);
        says("5", "FULL: there are 6 (THE PAGE stays).");
        refuses(6, "?a", F);
        refuses(6, "0", F);
        refuses(6, "?a".repeat(24), F);
        due("the sixth is still taken", talk(withTalks("0", "0", "0", "0", "0"), "0"), 5);
    }

    private static void stepsTold() {
        says("6", "`int steps(int t)`: How many STEPS a TALK has.");
        HelperWeave x = withTalks("0", "?a", "?a".repeat(24));
        due("none", x.steps(0), 0);
        due("one", x.steps(1), 1);
        due("24", x.steps(2), 24);
        says("6", "UNKNOWN.");
        for (int t : new int[] {-1, 3, 6, MIN, MAX}) {
            due("steps(" + t + ")", x.steps(t), U);
        }
        due("of no TALKS", new HelperWeave().steps(0), U);
    }

    private static void nextTold() {
        says("7", "`int next(int t, int state, int sign, int m)`: The STATE behind the STEP of a sign (0 heard, 1 said) "
            + "and MESSAGE m (0 to 7) from a STATE on;");
        HelperWeave x = withTalks("(?a|!a|?h|!h)?c");
        due("heard a", x.next(0, 0, 0, 0), 1);
        due("said a", x.next(0, 0, 1, 0), 2);
        due("heard h", x.next(0, 0, 0, 7), 3);
        due("said h", x.next(0, 0, 1, 7), 4);
        due("from the last but one", x.next(0, 4, 0, 2), 5);
        says("7", "NONE: there is none.");
        due("another MESSAGE", x.next(0, 0, 0, 1), N);
        due("another sign", x.next(0, 1, 1, 2), N);
        due("another STATE", x.next(0, 0, 0, 2), N);
        due("from the last STATE", x.next(0, 5, 0, 2), N);
        says("7", "UNKNOWN: t, state;");
        for (int t : new int[] {-1, 1, MIN, MAX}) {
            due("t " + t, x.next(t, 0, 0, 0), U);
            due("ahead of OUTSIDE", x.next(t, 0, 2, 8), U);
        }
        for (int state : new int[] {-1, 6, 25, MIN, MAX}) {
            due("state " + state, x.next(0, state, 0, 0), U);
            due("ahead of OUTSIDE", x.next(0, state, -1, -1), U);
        }
        says("7", "OUTSIDE: sign, m.");
        for (int sign : new int[] {-1, 2, MIN, MAX}) {
            due("sign " + sign, x.next(0, 0, sign, 0), O);
        }
        for (int m : new int[] {-1, 8, MIN, MAX}) {
            due("m " + m + " heard", x.next(0, 0, 0, m), O);
            due("m " + m + " said", x.next(0, 0, 1, m), O);
        }
    }

    private static void endsTold() {
        says("8", "`int ends(int t, int state)`: Whether a STATE MAY END: 1, 0.");
        HelperWeave x = withTalks("?a{!b}", "0");
        due("not at first", x.ends(0, 0), 0);
        due("behind the first", x.ends(0, 1), 1);
        due("behind the last", x.ends(0, 2), 1);
        due("of nothing", x.ends(1, 0), 1);
        says("8", "UNKNOWN.");
        for (int t : new int[] {-1, 2, MIN, MAX}) {
            due("t " + t, x.ends(t, 0), U);
        }
        for (int state : new int[] {-1, 3, 32, MIN, MAX}) {
            due("state " + state, x.ends(0, state), U);
        }
        due("no STATE 1 of nothing", x.ends(1, 1), U);
    }

    private static void usesTold() {
        says("9", "`int uses(int t, int sign)`: MESSAGES a TALK hears (sign 0), says (1), as bits.");
        HelperWeave x = withTalks("0", "?a!h", HEARS_ALL, SAYS_ALL, "?a?b(!a|{!c})");
        int[][] bits = {{0, 0}, {1, 128}, {255, 0}, {0, 255}, {3, 5}};
        for (int t = 0; t < bits.length; t++) {
            due("heard by " + t, x.uses(t, 0), bits[t][0]);
            due("said by " + t, x.uses(t, 1), bits[t][1]);
        }
        says("9", "UNKNOWN;");
        for (int t : new int[] {-1, 5, MIN, MAX}) {
            due("t " + t, x.uses(t, 0), U);
            due("ahead of OUTSIDE", x.uses(t, 2), U);
        }
        says("9", "OUTSIDE.");
        for (int sign : new int[] {-1, 2, MIN, MAX}) {
            due("sign " + sign, x.uses(1, sign), O);
        }
    }
}
