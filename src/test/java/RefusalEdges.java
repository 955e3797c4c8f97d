import java.util.ArrayList;
import java.util.List;

/**
 * Every call with every mix of arguments that are as told and that are not, on objects that are new,
 * used, full and broken: which refusal comes first, and that nothing has changed behind it.
 */
final class RefusalEdges extends Edges {
    /** A call on an object. */
    private interface Call {
        long on(HelperWeave x);
    }

    /** An object that can be made again and again. */
    private interface Making {
        HelperWeave made();
    }

    private static final int NOT_REFUSED = 0;
    private static final int[] SETS = {-1, 0, 4095, 4096};

    private final String name;
    private final Making making;
    private final List<Long> before;
    private final int talks;
    private final int helpers;
    private int refusals;

    private RefusalEdges(String name, Making making) {
        this.name = name;
        this.making = making;
        before = told(making.made());
        talks = making.made().count(0);
        helpers = making.made().count(2);
    }

    static void all() {
        says("Terms", "Refusals, of several the first as told by each call: UNKNOWN (a number names nothing), OUTSIDE (it is "
            + "not as told), STATE (as told), FULL; they change nothing.");
        int refusals = 0;
        RefusalEdges[] kinds = {new RefusalEdges("a new object", HelperWeave::new),
            new RefusalEdges("a used object", RefusalEdges::used), new RefusalEdges("a full object", RefusalEdges::full),
            new RefusalEdges("a broken object", RefusalEdges::broken)};
        for (RefusalEdges kind : kinds) {
            kind.ofTalks();
            kind.ofJoins();
            kind.ofAdapters();
            kind.ofHelpers();
            kind.ofRows();
            kind.ofLogs();
            refusals += kind.refusals;
        }
        isTrue("so many refusals: " + refusals, refusals > 1500);
    }

    // ---- objects

    private static HelperWeave used() {
        HelperWeave x = withTalks("!a!b", "?a", "!a!b!c!d!e!f");
        Check.write(x, "(?a|?b)!c)");
        x.helper(0, 1, 0);
        x.helper(1, 2, 1);
        x.helper(2, 4, 0);
        x.set(0, PRICE, 7);
        x.set(1, UNDO, 0);
        x.set(2, QUOTA, 1);
        x.level(0, 2);
        x.plan(0, 2, 5);
        x.begin(2);
        x.call(0, LOST);
        x.call(1, LOST);
        x.see(11, false);
        x.adapters(0, 1);
        x.join(0, 1, 1);
        return x;
    }

    private static HelperWeave full() {
        HelperWeave x = withTalks("!a", "?a?b", "!a!b!c!d!e!f", "0", "0", "{?a}");
        Check.write(x, "0".repeat(80));
        for (int s = 0; s < 8; s++) {
            x.helper(0, 1 << s, 0);
            x.set(s, PRICE, s);
        }
        for (int i = 0; i < 20; i++) {
            x.plan(0, 5, 5);
            x.join(0, 1, 1 + i % 2);
            x.adapters(0, 1);
        }
        row(x, 0, 1, 2, 3, 4);
        for (int t = 0; t < 30; t++) {
            x.call(t % 8, t < 3 ? LOST : FAILED);
        }
        return x;
    }

    /** No world, a row that does not go, and a page that is too long for a talk. */
    private static HelperWeave broken() {
        HelperWeave x = withTalks("{!a}", "{?a!b}");
        Check.write(x, "?a!a".repeat(13));
        x.helper(2048, 1, 0);
        x.put(0);
        x.join(0, 1, 0);
        x.begin(1);
        x.see(0, true);
        x.see(0, false);
        return x;
    }

    /** All that can be told of an object; calls that are limited are left out. */
    private static List<Long> told(HelperWeave x) {
        List<Long> told = new ArrayList<>();
        told.add(x.digest());
        told.add((long) x.walked());
        told.add((long) x.good());
        for (int i = 0; i < 6; i++) {
            told.add((long) x.trace(i));
            told.add((long) x.at(i));
            told.add((long) x.world(i));
        }
        for (int what = 0; what < 8; what++) {
            told.add((long) x.count(what));
        }
        for (int t = 0; t <= x.count(3); t++) {
            told.add((long) x.worlds(t));
        }
        told.add((long) x.held(0));
        told.add((long) x.held(1));
        told.add((long) x.broken());
        told.add((long) x.costs());
        told.add((long) x.stops(0));
        told.add((long) x.after(4095));
        told.add((long) x.undone(4095));
        told.add(x.chance(1, 1));
        told.add(x.mean(1, 0));
        return told;
    }

    /** Compares, if it is a refusal that is due; other answers are other tests' matter. */
    private void refuses(String call, int want, Call made) {
        if (want == NOT_REFUSED) {
            return;
        }
        refusals++;
        HelperWeave x = making.made();
        due(call + " of " + name, made.on(x), want);
        List<Long> after = told(x);
        isTrue("nothing changes by " + call + " of " + name, after.equals(before));
    }

    // ---- which refusal is due

    private static int first(boolean unknown, boolean outside, boolean state, boolean full) {
        return unknown ? U : outside ? O : state ? S : full ? F : NOT_REFUSED;
    }

    private static boolean not(int number, int least, int most) {
        return number < least || number > most;
    }

    private boolean noTalk(int t) {
        return not(t, 0, talks - 1);
    }

    private boolean noHelper(int s) {
        return not(s, 0, helpers - 1);
    }

    private int[] around(int many) {
        return new int[] {-1, 0, Math.max(0, many - 1), many};
    }

    private boolean is(String which) {
        return name.contains(which);
    }

    private int stepsOf(int t) {
        return making.made().steps(t);
    }

    // ---- calls

    private void ofTalks() {
        refuses("letters(127)", O, x -> x.letters(127));
        refuses("letters(0x610061)", O, x -> x.letters(0x610061));
        refuses("letters(-1)", O, x -> x.letters(-1));
        refuses("letters('a')", first(false, false, false, is("full")), x -> x.letters('a'));
        refuses("talk()", is("full") ? F : is("broken") ? O : S, HelperWeave::talk);
        for (int t : around(talks)) {
            refuses("steps(" + t + ")", first(noTalk(t), false, false, false), x -> x.steps(t));
            int steps = noTalk(t) ? 0 : stepsOf(t);
            for (int sign = -1; sign <= 2; sign++) {
                int side = sign;
                refuses("uses(" + t + ", " + sign + ")", first(noTalk(t), not(sign, 0, 1), false, false),
                    x -> x.uses(t, side));
                for (int state : around(steps + 1)) {
                    for (int m : around(8)) {
                        refuses("next(" + t + ", " + state + ", " + sign + ", " + m + ")", first(noTalk(t)
                            || not(state, 0, steps), not(sign, 0, 1) || not(m, 0, 7), false, false),
                            x -> x.next(t, state, side, m));
                    }
                }
            }
            for (int state : around(steps + 1)) {
                refuses("ends(" + t + ", " + state + ")", first(noTalk(t) || not(state, 0, steps), false, false, false),
                    x -> x.ends(t, state));
            }
        }
    }

    private void ofJoins() {
        for (int a : around(talks)) {
            for (int b : around(talks)) {
                boolean unknown = noTalk(a) || noTalk(b);
                for (int k = -1; k <= 3; k++) {
                    int so = k;
                    refuses("join(" + a + ", " + b + ", " + k + ")", first(unknown, not(k, 0, 2), k > 0 && is("full"),
                        false), x -> x.join(a, b, so));
                }
                refuses("fit(" + a + ", " + b + ")", first(unknown, false, false, false), x -> x.fit(a, b));
                int steps = noTalk(b) ? 0 : stepsOf(b);
                for (int q : around(steps + 1)) {
                    refuses("swap(" + a + ", " + b + ", " + q + ")", first(unknown || not(q, 0, steps), false, false, false),
                        x -> x.swap(a, b, q));
                }
            }
        }
    }

    private void ofAdapters() {
        for (int a : new int[] {-1, 0, 2, talks}) {
            for (int b : around(talks)) {
                boolean unknown = noTalk(a) || noTalk(b);
                boolean six = a == 2 && talks > 2;
                refuses("adapters(" + a + ", " + b + ")", first(unknown, six, is("full"), false), x -> x.adapters(a, b));
                for (int i : new int[] {-1, 0, 9999}) {
                    for (int m : around(8)) {
                        refuses("adapter(" + a + ", " + b + ", " + i + ", " + m + ")", first(unknown, six || not(m, 0, 7),
                            is("full"), false), x -> x.adapter(a, b, i, m));
                    }
                }
            }
        }
    }

    private void ofHelpers() {
        for (int needs : SETS) {
            for (int gives : SETS) {
                for (int takes : SETS) {
                    refuses("helper(" + needs + ", " + gives + ", " + takes + ")", first(false, not(needs, 0, 4095)
                        || not(gives, 0, 4095) || not(takes, 0, 4095), false, is("full")), x -> x.helper(needs, gives, takes));
                }
            }
        }
        int[] least = {0, 0, 1, 0};
        int[] most = {50, 9, 3, 3};
        for (int s : around(helpers)) {
            for (int what = -1; what <= 8; what++) {
                int which = what;
                refuses("about(" + s + ", " + what + ")", first(noHelper(s), not(what, 0, 7), false, false),
                    x -> x.about(s, which));
                boolean noWhat = not(what, 0, 4);
                for (int v : new int[] {MIN, -2, -1, 0, 4, 8, 10, 51, MAX}) {
                    boolean noUndo = what == 4 && v != N && noHelper(v);
                    boolean outside = !noWhat && what < 4 && not(v, least[what], most[what]);
                    refuses("set(" + s + ", " + what + ", " + v + ")", first(noHelper(s) || noWhat || noUndo, outside,
                        false, false), x -> x.set(s, which, v));
                }
            }
            refuses("put(" + s + ")", first(noHelper(s), false, false, is("full")), x -> x.put(s));
            refuses("again(" + s + ")", first(noHelper(s), false, is("broken"), false), x -> x.again(s));
            for (int how = -1; how <= 3; how++) {
                int so = how;
                refuses("call(" + s + ", " + how + ")", first(noHelper(s), not(how, 0, 2), false, is("full")),
                    x -> x.call(s, so));
            }
        }
    }

    private void ofRows() {
        for (int facts : SETS) {
            boolean outside = not(facts, 0, 4095);
            boolean state = is("broken") && facts == 0;
            refuses("stops(" + facts + ")", first(false, outside, false, false), x -> x.stops(facts));
            refuses("after(" + facts + ")", first(false, outside, state, false), x -> x.after(facts));
            refuses("undone(" + facts + ")", first(false, outside, state, false), x -> x.undone(facts));
            refuses("begin(" + facts + ")", first(false, outside, false, false), x -> x.begin(facts));
            for (int f : around(12)) {
                refuses("taint(" + facts + ", " + f + ")", first(not(f, 0, 11), outside, state, false),
                    x -> x.taint(facts, f));
            }
            for (int wish : SETS) {
                for (int most : around(6)) {
                    refuses("plan(" + facts + ", " + wish + ", " + most + ")", first(false, outside || not(wish, 0, 4095)
                        || not(most, 0, 5), is("full"), false), x -> x.plan(facts, wish, most));
                }
            }
        }
        for (int r = -1; r <= 4; r++) {
            for (int part = -1; part <= 2; part++) {
                int so = r;
                int which = part;
                int want = first(false, not(r, 1, 3) || not(part, 0, 1), false, false);
                refuses("chance(" + r + ", " + part + ")", want, x -> x.chance(so, which));
                refuses("mean(" + r + ", " + part + ")", want, x -> x.mean(so, which));
            }
        }
    }

    private void ofLogs() {
        for (int f : around(12)) {
            refuses("see(" + f + ", true)", first(not(f, 0, 11), false, false, is("full")), x -> x.see(f, true));
            refuses("see(" + f + ", false)", first(not(f, 0, 11), false, false, is("full")), x -> x.see(f, false));
            for (int v : around(4)) {
                refuses("level(" + f + ", " + v + ")", first(not(f, 0, 11), not(v, 0, 3), false, false),
                    x -> x.level(f, v));
            }
        }
        refuses("strike()", is("new") ? S : NOT_REFUSED, HelperWeave::strike);
        int events = making.made().count(3);
        for (int t : around(events + 1)) {
            refuses("worlds(" + t + ")", first(not(t, 0, events), false, false, false), x -> x.worlds(t));
        }
        for (int side = -1; side <= 2; side++) {
            int so = side;
            refuses("held(" + side + ")", first(false, not(side, 0, 1), is("broken"), false), x -> x.held(so));
        }
        for (int what : around(8)) {
            refuses("count(" + what + ")", first(false, not(what, 0, 7), false, false), x -> x.count(what));
        }
    }
}
