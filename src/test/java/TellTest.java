import java.util.ArrayList;
import java.util.List;

/** Promises 41 and 42: counts and the digest; and that calls which only tell change nothing. */
final class TellTest {
    private static final int O = HelperWeave.OUTSIDE;

    private static void constants() {
        Check.due("NONE", HelperWeave.NONE, -1);
        Check.due("UNKNOWN", HelperWeave.UNKNOWN, -101);
        Check.due("OUTSIDE", HelperWeave.OUTSIDE, -102);
        Check.due("STATE", HelperWeave.STATE, -103);
        Check.due("FULL", HelperWeave.FULL, -104);
    }

    private static void counts() {
        HelperWeave x = Check.withTalks("!a", "?b");
        Check.write(x, "?a?");
        x.helper(0, 1, 0);
        x.helper(0, 2, 0);
        x.helper(0, 4, 0);
        x.see(0, false);
        x.join(0, 1, 0);
        x.join(0, 1, 1);
        x.join(0, 1, 2);
        x.adapters(0, 1);
        x.adapter(0, 1, 0, 0);
        x.adapter(0, 1, 5, 5);
        x.plan(0, 3, 5);
        x.plan(0, 2048, 5);
        int[] due = {2, 3, 3, 1, 2, 3, 2, 2};
        for (int what = 0; what < due.length; what++) {
            Check.due("41: count(" + what + ")", x.count(what), due[what]);
        }
        Check.due("41: what", x.count(8), O);
        Check.due("41: what below", x.count(-1), O);
        Check.due("41: far out", x.count(Integer.MIN_VALUE), O);
    }

    private static long folded(List<Integer> numbers) {
        long h = 211;
        for (int number : numbers) {
            h = 31 * h + number;
        }
        return h;
    }

    private static void addAll(List<Integer> numbers, int... more) {
        for (int number : more) {
            numbers.add(number);
        }
    }

    private static void newDigest() {
        List<Integer> numbers = new ArrayList<>();
        addAll(numbers, new int[12]);
        addAll(numbers, 0, 1, 0, 0, 0);
        Check.due("42: a new object", new HelperWeave().digest(), folded(numbers));
    }

    private static void fullDigest() {
        HelperWeave x = Check.withTalks("0", "?b");
        Check.write(x, "x!");
        x.helper(1, 2, 4);
        x.helper(0, 1, 0);
        x.set(0, 0, 9);
        x.set(0, 4, 1);
        x.level(11, 3);
        x.put(1);
        x.put(0);
        x.call(1, 2);
        x.join(0, 1, 1);
        x.adapters(0, 1);
        x.adapters(0, 1);
        x.plan(0, 4, 0);
        x.plan(0, 4, 0);
        x.plan(0, 4, 0);
        List<Integer> numbers = new ArrayList<>();
        addAll(numbers, 'x', '!');
        addAll(numbers, 0, 1, -1, -1, -1, -1, -1, -1, -1, -1, -1, -1, -1, -1, -1, -1, -1, -1);
        addAll(numbers, 1, 0, -1, 1, -1, -1, -1, -1, -1, -1, -1, -1, -1, -1, -1, -1, -1, -1);
        addAll(numbers, 1, -1, -1, -1, -1, -1, -1, -1, -1, -1, -1, -1, -1, -1, -1, -1, -1);
        addAll(numbers, 9, 0, 3, 3, 1, 1, 2, 4);
        addAll(numbers, 0, 0, 3, 3, -1, 0, 1, 0);
        addAll(numbers, 0, 0, 0, 0, 0, 0, 0, 0, 0, 0, 0, 3);
        addAll(numbers, 1, 0);
        addAll(numbers, 1, 2, 1, 2, 3);
        Check.due("42: of everything", x.digest(), folded(numbers));
        Check.due("42: once more", x.digest(), folded(numbers));
        x.good();
        x.talk();
        x.steps(0);
        x.next(1, 0, 0, 1);
        x.ends(1, 1);
        x.uses(1, 0);
        x.join(0, 1, 0);
        x.walked();
        x.trace(0);
        x.fit(0, 1);
        x.swap(0, 1, 1);
        x.about(0, 0);
        x.at(0);
        x.stops(0);
        x.after(0);
        x.taint(0, 0);
        x.costs();
        x.chance(1, 0);
        x.mean(1, 0);
        x.undone(0);
        x.worlds(0);
        x.held(0);
        x.world(0);
        x.broken();
        x.again(0);
        x.count(0);
        Check.due("42: calls that only tell", x.digest(), folded(numbers));
    }

    public static void main(String[] args) {
        constants();
        counts();
        newDigest();
        fullDigest();
        Check.finish("TellTest");
    }
}
