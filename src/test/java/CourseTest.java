import java.util.ArrayList;
import java.util.Arrays;
import java.util.HashSet;
import java.util.List;
import java.util.Random;
import java.util.Set;

/**
 * Promises 5, 7 and 8 by the words of the document: all courses of a small talk are written out, with
 * up to three rounds of each loop, and tell what may come right behind what, and where it may end.
 */
final class CourseTest {
    private static final int MOST_COURSES = 20000;
    private final Random random;
    private final StringBuilder text = new StringBuilder();
    private int steps = 0;

    private CourseTest(long seed) {
        random = new Random(seed);
    }

    /** Writes a talk onto the text and answers its courses, or null if they are too many. */
    private Set<List<Integer>> talk(int depth) {
        Set<List<Integer>> courses = new HashSet<>(List.of(List.of()));
        for (int i = 0; i <= random.nextInt(3); i++) {
            Set<List<Integer>> more = piece(depth);
            courses = courses == null || more == null ? null : chained(courses, more);
        }
        return courses;
    }

    private Set<List<Integer>> piece(int depth) {
        int kind = random.nextInt(depth == 0 ? 6 : 10);
        if (kind == 0) {
            text.append('0');
            return new HashSet<>(List.of(List.of()));
        }
        if (kind < 6) {
            text.append(random.nextBoolean() ? '?' : '!').append((char) ('a' + random.nextInt(4)));
            steps++;
            return new HashSet<>(List.of(List.of(steps)));
        }
        if (kind < 8) {
            text.append('(');
            Set<List<Integer>> all = talk(depth - 1);
            for (int i = 0; i <= random.nextInt(2); i++) {
                text.append('|');
                Set<List<Integer>> more = talk(depth - 1);
                if (all != null && more != null) {
                    all.addAll(more);
                } else {
                    all = null;
                }
            }
            text.append(')');
            return all;
        }
        text.append('{');
        Set<List<Integer>> inner = talk(depth - 1);
        text.append('}');
        Set<List<Integer>> courses = new HashSet<>(List.of(List.of()));
        for (int round = 0; round < 3 && courses != null && inner != null; round++) {
            Set<List<Integer>> longer = chained(courses, inner);
            if (longer != null) {
                longer.addAll(courses);
            }
            courses = longer;
        }
        return inner == null ? null : courses;
    }

    private static Set<List<Integer>> chained(Set<List<Integer>> first, Set<List<Integer>> second) {
        if ((long) first.size() * second.size() > MOST_COURSES) {
            return null;
        }
        Set<List<Integer>> all = new HashSet<>();
        for (List<Integer> one : first) {
            for (List<Integer> other : second) {
                List<Integer> both = new ArrayList<>(one);
                both.addAll(other);
                all.add(both);
            }
        }
        return all;
    }

    private int kindOf(int step) {
        int seen = 0;
        for (int i = 0; i < text.length(); i++) {
            char letter = text.charAt(i);
            if (letter == '?' || letter == '!') {
                seen++;
                if (seen == step) {
                    return (letter == '?' ? 0 : 8) + text.charAt(i + 1) - 'a';
                }
            }
        }
        throw new IllegalStateException();
    }

    private boolean compared() {
        Set<List<Integer>> courses = talk(2);
        if (courses == null || text.length() > 80 || steps > 24) {
            return false;
        }
        int[][] next = new int[steps + 1][16];
        boolean[] ends = new boolean[steps + 1];
        boolean twofold = false;
        for (int[] row : next) {
            Arrays.fill(row, HelperWeave.NONE);
        }
        for (List<Integer> course : courses) {
            int state = 0;
            for (int step : course) {
                int kind = kindOf(step);
                twofold |= next[state][kind] != HelperWeave.NONE && next[state][kind] != step;
                next[state][kind] = step;
                state = step;
            }
            ends[state] = true;
        }
        HelperWeave x = new HelperWeave();
        Check.due("talk of " + text, Check.talk(x, text.toString()), twofold ? HelperWeave.OUTSIDE : 0);
        if (twofold) {
            return true;
        }
        Check.due("steps of " + text, x.steps(0), steps);
        for (int state = 0; state <= steps; state++) {
            Check.due("ends(" + state + ") of " + text, x.ends(0, state), ends[state] ? 1 : 0);
            for (int kind = 0; kind < 16; kind++) {
                Check.due("next(" + state + ", " + kind + ") of " + text, x.next(0, state, kind / 8, kind % 8),
                    next[state][kind]);
            }
        }
        return true;
    }

    public static void main(String[] args) {
        int done = 0;
        for (long seed = 0; seed < 5000; seed++) {
            done += new CourseTest(seed).compared() ? 1 : 0;
        }
        Check.due("enough talks", done > 2000 ? 1 : 0, 1);
        Check.finish("CourseTest");
    }
}
