import java.io.IOException;
import java.io.StringWriter;
import java.net.URI;
import java.nio.file.Files;
import java.nio.file.Path;
import java.util.ArrayList;
import java.util.List;
import java.util.concurrent.ExecutorService;
import java.util.concurrent.Executors;
import java.util.concurrent.TimeUnit;
import java.util.regex.Matcher;
import java.util.regex.Pattern;
import javax.tools.JavaCompiler;
import javax.tools.JavaFileObject;
import javax.tools.SimpleJavaFileObject;
import javax.tools.ToolProvider;

/**
 * Asks whether the tests would see a fault: spoils HelperWeave at one place after the other and tells
 * where the tests that are named pass all the same. No part of .ci/run; it takes some minutes.
 * Arguments: where the tests are compiled to, then the tests.
 */
final class Mutants {
    private static final Path SOURCE = Path.of("src/main/java/HelperWeave.java");
    private static final int SECONDS = 60;
    // what is looked for, and what it becomes, one way or several
    private static final String[][] CHANGES = {
        {" < ", " <= ", " > "}, {" <= ", " < "}, {" > ", " >= ", " < "}, {" >= ", " > "}, {" == ", " != "},
        {" != ", " == "}, {" && ", " || "}, {" || ", " && "}, {" + ", " - "}, {" - ", " + "}, {" * ", " + "},
        {" | ", " & "}, {" & ", " | "}, {" << ", " >> "}, {" >> ", " << "}, {"\\+\\+", "--"}, {"\\bUNKNOWN\\b", "OUTSIDE"},
        {"\\bOUTSIDE\\b", "STATE", "UNKNOWN"}, {"\\bSTATE\\b", "FULL", "OUTSIDE"}, {"\\bFULL\\b", "STATE"},
        {"\\bNONE\\b", "0"}, {"\\btrue\\b", "false"}, {"\\bfalse\\b", "true"}, {"(?<=[( ])!(?=[a-z(])", ""},
        {"~", ""}, {" \\+= ", " = "}, {" \\|= ", " = "}, {" &= ", " = "}, {" \\? ([^:]+) : ([^;]+);", " ? $2 : $1;"}};
    private static final Pattern NUMBER = Pattern.compile("(?<![\\w.])\\d+(?![\\w.])");

    private final JavaCompiler compiler = ToolProvider.getSystemJavaCompiler();
    private final String classes;
    private final List<String> tests;
    private int made = 0;
    private int lived = 0;

    private Mutants(String classes, List<String> tests) {
        this.classes = classes;
        this.tests = tests;
    }

    /** All ways to spoil one line. */
    private static List<String> spoiled(String line) {
        List<String> found = new ArrayList<>();
        String code = line.replaceAll("//.*$", "");
        String bare = code.trim();
        if (bare.isEmpty() || bare.startsWith("*") || bare.startsWith("/*") || bare.startsWith("import")) {
            return found;
        }
        for (String[] change : CHANGES) {
            String from = change[0].startsWith(" ") && change[0].endsWith(" ") && !change[0].contains("\\")
                ? Pattern.quote(change[0]) : change[0];
            Matcher matcher = Pattern.compile(from).matcher(code);
            while (matcher.find()) {
                for (int way = 1; way < change.length; way++) {
                    found.add(changed(Pattern.compile(from), code, matcher.start(), change[way]));
                }
            }
        }
        Matcher number = NUMBER.matcher(code);
        while (number.find()) {
            for (int step = -1; step <= 1; step += 2) {
                found.add(code.substring(0, number.start()) + (Integer.parseInt(number.group()) + step)
                    + code.substring(number.end()));
            }
        }
        if (bare.endsWith(";") && !bare.startsWith("return") && !bare.startsWith("private") && !bare.startsWith("for")) {
            found.add("");
        }
        return found;
    }

    /** What stands ahead of the place is seen too, though only the place changes. */
    private static String changed(Pattern from, String code, int start, String to) {
        Matcher matcher = from.matcher(code).region(start, code.length()).useTransparentBounds(true);
        StringBuilder text = new StringBuilder();
        if (matcher.lookingAt()) {
            matcher.appendReplacement(text, to);
        }
        return matcher.appendTail(text).toString();
    }

    private boolean compiles(String text, Path to) {
        JavaFileObject file = new SimpleJavaFileObject(URI.create("string:///HelperWeave.java"),
            JavaFileObject.Kind.SOURCE) {
            @Override
            public CharSequence getCharContent(boolean ignored) {
                return text;
            }
        };
        return compiler.getTask(new StringWriter(), null, null, List.of("-d", to.toString()), null, List.of(file)).call();
    }

    private boolean passes(String test, Path mutant) throws IOException, InterruptedException {
        Process process = new ProcessBuilder("java", "-Dfirst=true", "-XX:TieredStopAtLevel=1", "-cp",
            mutant + ":" + classes, test).redirectErrorStream(true).redirectOutput(ProcessBuilder.Redirect.DISCARD).start();
        if (!process.waitFor(SECONDS, TimeUnit.SECONDS)) {
            process.destroyForcibly();
            return false;
        }
        return process.exitValue() == 0;
    }

    private void ask(List<String> lines, int at, String spoiled) {
        try {
            List<String> text = new ArrayList<>(lines);
            text.set(at, spoiled);
            Path to = Files.createTempDirectory("mutant");
            boolean passed = compiles(String.join("\n", text), to);
            boolean told = passed;
            for (String test : tests) {
                passed = passed && passes(test, to);
            }
            synchronized (this) {
                made += told ? 1 : 0;
                lived += passed ? 1 : 0;
                if (passed) {
                    System.out.println((at + 1) + ": " + lines.get(at).trim() + "\n      -> " + spoiled.trim());
                }
            }
            remove(to);
        } catch (IOException | InterruptedException stop) {
            throw new IllegalStateException(stop);
        }
    }

    private static void remove(Path directory) throws IOException {
        try (var files = Files.list(directory)) {
            for (Path file : files.toList()) {
                Files.delete(file);
            }
        }
        Files.delete(directory);
    }

    public static void main(String[] args) throws IOException, InterruptedException {
        if (args.length < 2) {
            System.out.println("java Mutants WHERE-TESTS-ARE-COMPILED TEST ..");
            return;
        }
        Mutants mutants = new Mutants(args[0], List.of(args).subList(1, args.length));
        List<String> lines = Files.readAllLines(SOURCE);
        ExecutorService workers = Executors.newFixedThreadPool(Runtime.getRuntime().availableProcessors());
        for (int at = 0; at < lines.size(); at++) {
            for (String spoiled : spoiled(lines.get(at))) {
                int line = at;
                workers.submit(() -> mutants.ask(lines, line, spoiled));
            }
        }
        workers.shutdown();
        workers.awaitTermination(1, TimeUnit.HOURS);
        System.out.println(mutants.made + " mutants, " + mutants.lived + " lived");
    }
}
