import java.io.File;
import java.io.IOException;
import java.nio.file.Files;
import java.nio.file.Path;
import java.util.ArrayList;
import java.util.Comparator;
import java.util.List;
import java.util.Map;
import java.util.concurrent.ExecutorService;
import java.util.concurrent.Executors;
import java.util.concurrent.Future;
import java.util.concurrent.TimeUnit;
import java.util.regex.Matcher;
import java.util.regex.Pattern;
import java.util.stream.Stream;

/** Breaks the class in one place at a time and prints the broken ones that the tests by sentence let pass. */
public final class Mutants {
    private static final Path CLASS = Path.of("src/main/java/GondolaTold.java");
    private static final Pattern NUMBER = Pattern.compile("(?<![\\w.])(\\d+)(L?)(?!\\w)");
    private static final Pattern SIGN = Pattern.compile("<=|>=|==|!=|&&|\\|\\||\\+\\+|--|\\+=|-=|!(?=[\\w(])| [-+*/%<>] ");
    private static final Pattern NAME = Pattern.compile("\\b(refuseBad|refuseNo|refuseFull|Math\\.min|Math\\.max|true|false)\\b");
    private static final Pattern STATEMENT = Pattern.compile("\\s+[\\w.\\[\\]+* ]+(\\([^{]*\\)|\\s*[-+|*]?=[^=].*|\\+\\+|--);");
    private static final Pattern KEPT = Pattern.compile("\\s+(return|final|private|public|static|int|long|boolean|Guest|Rower|Table)\\b.*");
    private static final Map<String, List<String>> INSTEAD = Map.ofEntries(
            Map.entry("<=", List.of("<", "==")), Map.entry(">=", List.of(">", "==")), Map.entry("==", List.of("!=")),
            Map.entry("!=", List.of("==")), Map.entry("&&", List.of("||")), Map.entry("||", List.of("&&")),
            Map.entry("++", List.of("--")), Map.entry("--", List.of("++")), Map.entry("+=", List.of("-=")),
            Map.entry("-=", List.of("+=")), Map.entry("!", List.of("")), Map.entry(" < ", List.of(" <= ", " != ")),
            Map.entry(" > ", List.of(" >= ", " != ")), Map.entry(" + ", List.of(" - ")), Map.entry(" - ", List.of(" + ")),
            Map.entry(" * ", List.of(" + ")), Map.entry(" / ", List.of(" * ")), Map.entry(" % ", List.of(" / ")),
            Map.entry("refuseBad", List.of("refuseNo", "refuseFull", "refuseFarBad")),
            Map.entry("refuseNo", List.of("refuseBad")), Map.entry("refuseFull", List.of("refuseBad")),
            Map.entry("Math.min", List.of("Math.max")), Map.entry("Math.max", List.of("Math.min")),
            Map.entry("true", List.of("false")), Map.entry("false", List.of("true")));

    private record Mutant(int line, String text) {
    }

    /** With a folder of compiled tests: breaks the class. Without: runs the tests by sentence on the class at hand. */
    public static void main(String[] args) throws Exception {
        if (args.length == 0) {
            runTests();
            return;
        }
        List<String> lines = Files.readAllLines(CLASS);
        List<Mutant> mutants = new ArrayList<>();
        for (int i = 0; i < lines.size(); i++) {
            breakLine(i, lines.get(i), mutants);
        }
        ExecutorService workers = Executors.newFixedThreadPool(Runtime.getRuntime().availableProcessors());
        List<Future<Boolean>> passed = new ArrayList<>();
        for (Mutant mutant : mutants) {
            passed.add(workers.submit(() -> passes(lines, mutant, args[0])));
        }
        int count = 0;
        for (int i = 0; i < mutants.size(); i++) {
            if (passed.get(i).get()) {
                count++;
                Mutant m = mutants.get(i);
                System.out.println((m.line + 1) + ": " + lines.get(m.line).trim() + "  =>  " + m.text.trim());
            }
        }
        workers.shutdown();
        System.out.println(mutants.size() + " broken classes, " + count + " of them pass");
    }

    private static void runTests() throws Exception {
        String[] none = {};
        EdgesCallsTest.main(none);
        EdgesKeptTest.main(none);
        EdgesGuessTest.main(none);
        EdgesChanceTest.main(none);
        EdgesWaysTest.main(none);
        EdgesTermsTest.main(none);
        EdgesTextTest.main(none);
    }

    private static void breakLine(int i, String line, List<Mutant> mutants) {
        if (line.matches("\\s*(/?\\*|//).*")) {
            return;
        }
        for (Matcher m = NUMBER.matcher(line); m.find();) {
            long n = Long.parseLong(m.group(1));
            mutants.add(new Mutant(i, swap(line, m, n + 1 + m.group(2))));
            if (n > 0) {
                mutants.add(new Mutant(i, swap(line, m, n - 1 + m.group(2))));
            }
        }
        for (Pattern pattern : List.of(SIGN, NAME)) {
            for (Matcher m = pattern.matcher(line); m.find();) {
                for (String other : INSTEAD.get(m.group())) {
                    mutants.add(new Mutant(i, swap(line, m, other)));
                }
            }
        }
        if (STATEMENT.matcher(line).matches() && !KEPT.matcher(line).matches()) {
            mutants.add(new Mutant(i, ""));
        }
    }

    private static String swap(String line, Matcher m, String other) {
        return line.substring(0, m.start()) + other + line.substring(m.end());
    }

    private static boolean passes(List<String> lines, Mutant mutant, String tests) throws Exception {
        Path dir = Files.createTempDirectory("mutant");
        List<String> broken = new ArrayList<>(lines);
        broken.set(mutant.line, mutant.text);
        Path source = Files.write(dir.resolve("GondolaTold.java"), broken);
        boolean passes = run("javac", "-nowarn", "-J-XX:TieredStopAtLevel=1", "-d", dir.toString(), source.toString())
                && run("java", "-XX:TieredStopAtLevel=1", "-cp", dir + File.pathSeparator + tests, "Mutants");
        try (Stream<Path> files = Files.walk(dir)) {
            files.sorted(Comparator.reverseOrder()).map(Path::toFile).forEach(File::delete);
        }
        return passes;
    }

    /** One that does not end in time is found out, too. */
    private static boolean run(String... command) throws IOException, InterruptedException {
        Process process = new ProcessBuilder(command).redirectErrorStream(true)
                .redirectOutput(ProcessBuilder.Redirect.DISCARD).start();
        if (!process.waitFor(60, TimeUnit.SECONDS)) {
            process.destroyForcibly().waitFor();
            return false;
        }
        return process.exitValue() == 0;
    }
}
