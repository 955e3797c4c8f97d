import java.io.IOException;
import java.nio.file.Files;
import java.nio.file.Path;
import java.util.LinkedHashMap;
import java.util.Map;

/**
 * The document, by sections, and which of its words a test has quoted: a quotation must stand there
 * word for word, something must be asked under it, and at last no word of a promise may be left over.
 */
final class Doc {
    private static final Path PLACE = Path.of("../shared/DOC.md");
    private static final Map<String, String> SECTIONS = new LinkedHashMap<>();
    private static final Map<String, boolean[]> QUOTED = new LinkedHashMap<>();
    private static String sentence = "";
    private static int askedBefore = -1;
    private static int quotations = 0;

    private Doc() {
    }

    static void open() throws IOException {
        if (!Files.exists(PLACE)) {
            System.out.println("no " + PLACE + ": quotations are not compared with it");
            return;
        }
        String name = "";
        StringBuilder text = new StringBuilder();
        for (String line : Files.readAllLines(PLACE)) {
            if (line.startsWith("## ")) {
                keep(name, text);
                name = line.substring(3).replaceAll("^Promise ([0-9]+):.*$", "$1");
                text.setLength(0);
            } else if (!line.startsWith("```")) {
                text.append(line).append(' ');
            }
        }
        keep(name, text);
    }

    private static void keep(String name, StringBuilder text) {
        String plain = text.toString().replaceAll("\\s+", " ").trim();
        SECTIONS.put(name, plain);
        QUOTED.put(name, new boolean[plain.length()]);
    }

    /** What is asked from here on is asked for this sentence of this section. */
    static void says(String section, String words) {
        closeSentence();
        sentence = section + ": \"" + words + "\"";
        Check.head(sentence + " -- ");
        askedBefore = Check.asked();
        quotations++;
        mark(section, words);
    }

    /** Words that ask for nothing. */
    static void passOver(String section, String words) {
        mark(section, words);
    }

    private static void mark(String section, String words) {
        if (SECTIONS.isEmpty()) {
            return;
        }
        String text = SECTIONS.getOrDefault(section, "");
        int at = text.indexOf(words);
        if (at < 0) {
            fail("not a sentence of the document, " + section + ": " + words);
        }
        while (at >= 0) {
            for (int i = at; i < at + words.length(); i++) {
                QUOTED.get(section)[i] = true;
            }
            at = text.indexOf(words, at + 1);
        }
    }

    private static void closeSentence() {
        if (askedBefore == Check.asked()) {
            fail("nothing was asked for " + sentence);
        }
    }

    private static void fail(String what) {
        Check.head("");
        Check.due(what, 0, 1);
    }

    /** Tells the words of the terms and promises that no test has quoted. */
    static void close() {
        closeSentence();
        Check.head("");
        for (String section : SECTIONS.keySet()) {
            if (section.equals("Terms") || section.matches("[0-9]+")) {
                tellLeft(section);
            }
        }
        Check.due("sentences that are quoted", quotations > 150 ? 1 : 0, 1);
    }

    private static void tellLeft(String section) {
        StringBuilder left = new StringBuilder();
        String text = SECTIONS.get(section);
        for (int i = 0; i < text.length(); i++) {
            left.append(QUOTED.get(section)[i] ? ' ' : text.charAt(i));
        }
        String words = left.toString().replaceAll("\\s+", " ").trim();
        Check.due(section + ", quoted by no test: " + words, words.isEmpty() ? 0 : 1, 0);
    }
}
