/** What the tests share: answers that are compared and counted, and talks written from texts. */
final class Check {
    private static int asked = 0;
    private static int wrong = 0;
    // for Mutants, which asks only whether something is wrong
    private static final boolean ENDS_AT_FIRST = Boolean.getBoolean("first");
    // stands ahead of each call that is told
    private static String heading = "";

    private Check() {
    }

    static void due(String call, long got, long want) {
        asked++;
        if (got != want) {
            wrong++;
            System.out.println(heading + call + " answered " + got + ", due is " + want);
            if (ENDS_AT_FIRST) {
                System.exit(1);
            }
        }
    }

    static void dueAll(String call, long[] got, long... want) {
        due(call + ", how many", got.length, want.length);
        for (int i = 0; i < got.length && i < want.length; i++) {
            due(call + ", number " + i, got[i], want[i]);
        }
    }

    static void head(String text) {
        heading = text;
    }

    static int asked() {
        return asked;
    }

    static boolean isWrong() {
        return wrong > 0;
    }

    /** Ends the program: with 1, if an answer was wrong or nothing was asked. */
    static void finish(String name) {
        System.out.println(name + ": " + asked + " answers, " + wrong + " wrong");
        System.exit(wrong == 0 && asked > 0 ? 0 : 1);
    }

    /** Up to eight letters of a text, from a place on, as letters() takes them. */
    static long packed(String text, int from) {
        long w = 0;
        for (int i = 0; i < 8 && from + i < text.length(); i++) {
            w |= (long) text.charAt(from + i) << 8 * i;
        }
        return w;
    }

    static void write(HelperWeave x, String text) {
        for (int from = 0; from < text.length(); from += 8) {
            x.letters(packed(text, from));
        }
    }

    /** A new page with a text on it, read as a talk: what talk() answers. */
    static int talk(HelperWeave x, String text) {
        x.blank();
        write(x, text);
        return x.talk();
    }

    static HelperWeave withTalks(String... texts) {
        HelperWeave x = new HelperWeave();
        for (String text : texts) {
            if (talk(x, text) < 0) {
                throw new IllegalStateException("no talk: " + text);
            }
        }
        return x;
    }
}
