import java.io.IOException;
import java.lang.reflect.Field;
import java.lang.reflect.Method;
import java.lang.reflect.Modifier;
import java.nio.file.Files;
import java.nio.file.Path;
import java.util.Set;
import java.util.TreeSet;
import java.util.stream.Stream;

/** The face of the document and no more, and those rules of LANGUAGE.md that can be seen from outside. */
final class LanguageTest {
    private static final Path DOCUMENT = Path.of("../shared/DOC.md");
    private static final String FACE = "int letters(long) int blank() int good() int talk() int steps(int) "
        + "int next(int,int,int,int) int ends(int,int) int uses(int,int) int join(int,int,int) int walked() "
        + "int trace(int) int fit(int,int) int swap(int,int,int) int adapters(int,int) int adapter(int,int,int,int) "
        + "int helper(int,int,int) int set(int,int,int) int level(int,int) int about(int,int) int put(int) "
        + "int empty() int at(int) int stops(int) int after(int) int taint(int,int) int costs() int plan(int,int,int) "
        + "long chance(int,int) long mean(int,int) int undone(int) int begin(int) int call(int,int) "
        + "int see(int,boolean) int strike() int worlds(int) int held(int) int world(int) int broken() int again(int) "
        + "int count(int) long digest()";
    private static final String[] NOT_THERE = {"throw", "catch", "finally", "synchronized", "assert", "->", "::",
        "Exact", "System.out", "new Object", "interface", "Random", "nanoTime", "currentTimeMillis", "package "};

    private static void isTrue(String what, boolean is) {
        Check.due(what, is ? 1 : 0, 1);
    }

    private static String told(Method method) {
        StringBuilder text = new StringBuilder(method.getReturnType().getName()).append(' ');
        text.append(method.getName()).append('(');
        for (Class<?> type : method.getParameterTypes()) {
            text.append(text.charAt(text.length() - 1) == '(' ? "" : ",").append(type.getName());
        }
        return text.append(')').toString();
    }

    private static void face() {
        Set<String> due = new TreeSet<>(Set.of(FACE.split("(?<=\\)) ")));
        Set<String> names = new TreeSet<>();
        for (Method method : HelperWeave.class.getDeclaredMethods()) {
            if (Modifier.isPublic(method.getModifiers())) {
                isTrue("the face has " + told(method), due.remove(told(method)));
                names.add(method.getName());
            }
        }
        isTrue("the face lacks " + due, due.isEmpty());
        for (Field field : HelperWeave.class.getDeclaredFields()) {
            boolean constant = Set.of("NONE", "UNKNOWN", "OUTSIDE", "STATE", "FULL").contains(field.getName());
            isTrue("face: " + field, Modifier.isPublic(field.getModifiers()) == constant);
            isTrue("private: " + field, constant || Modifier.isPrivate(field.getModifiers()));
            isTrue("final: " + field, !Modifier.isStatic(field.getModifiers())
                || Modifier.isFinal(field.getModifiers()));
        }
        isTrue("final class", Modifier.isFinal(HelperWeave.class.getModifiers()));
        hidden(HelperWeave.class, names, true);
        for (Class<?> inside : HelperWeave.class.getDeclaredClasses()) {
            isTrue("private, static: " + inside, Modifier.isPrivate(inside.getModifiers())
                && Modifier.isStatic(inside.getModifiers()));
            hidden(inside, names, false);
        }
        isTrue("twelve classes", HelperWeave.class.getDeclaredClasses().length <= 11);
    }

    /** The document's own lines of the face, if it is there. */
    private static void faceOfDocument() throws IOException {
        if (!Files.exists(DOCUMENT)) {
            System.out.println("no " + DOCUMENT + ": the face is not compared with it");
            return;
        }
        StringBuilder told = new StringBuilder();
        for (String line : Files.readAllLines(DOCUMENT)) {
            if (line.matches("    public (int|long) \\w+\\(.*\\);")) {
                String bare = line.trim().replaceAll("(int|long|boolean) \\w+(?=[,)])", "$1");
                told.append(bare.replace("public ", "").replace(", ", ",").replace(";", " "));
            }
        }
        isTrue("the document's face: " + told, told.toString().trim().equals(FACE));
    }

    private static void hidden(Class<?> where, Set<String> names, boolean outer) {
        long fields = Stream.of(where.getDeclaredFields()).filter(f -> !Modifier.isStatic(f.getModifiers())).count();
        isTrue("twenty fields: " + where, fields <= 20);
        for (Method method : where.getDeclaredMethods()) {
            isTrue("seven parameters: " + method, method.getParameterCount() <= 7);
            if (!Modifier.isPublic(method.getModifiers())) {
                isTrue("a name of its own: " + method, !names.contains(method.getName()));
                isTrue("private: " + method, !outer || Modifier.isPrivate(method.getModifiers()));
            }
        }
    }

    private static void source() throws IOException {
        String text = Files.readString(Path.of("src/main/java/HelperWeave.java"));
        for (String word : NOT_THERE) {
            isTrue("not there: " + word, !text.contains(word));
        }
        isTrue("one import", text.indexOf("import") == text.lastIndexOf("import"));
        isTrue("short methods", longestMethod(text) <= 60);
        isTrue("plain signs", text.chars().allMatch(c -> c == '\n' || c >= 32 && c < 127));
    }

    /** How many lines the longest method has: from a line that opens one to the brace below its beginning. */
    private static int longestMethod(String text) {
        int longest = 0;
        int begun = 0;
        String closing = "";
        String[] lines = text.split("\n");
        for (int i = 0; i < lines.length; i++) {
            if (closing.isEmpty() && lines[i].matches(" +[^=]*\\) \\{")) {
                begun = i;
                closing = lines[i].replaceAll("\\S.*", "") + "}";
            } else if (!closing.isEmpty() && lines[i].equals(closing)) {
                longest = Math.max(longest, i - begun + 1);
                closing = "";
            }
        }
        isTrue("methods were found", longest > 10 && closing.isEmpty());
        return longest;
    }

    public static void main(String[] args) throws IOException {
        face();
        faceOfDocument();
        source();
        Check.finish("LanguageTest");
    }
}
