import java.io.IOException;
import java.lang.reflect.Method;
import java.lang.reflect.Modifier;
import java.nio.file.Files;
import java.nio.file.Path;
import java.util.ArrayList;
import java.util.Arrays;
import java.util.List;
import java.util.Map;
import java.util.Set;
import java.util.TreeMap;
import java.util.TreeSet;
import java.util.regex.Matcher;
import java.util.regex.Pattern;
import java.util.stream.Stream;

/** What README.md says of calls, answers and files is so. */
public final class ReadmeTest {
    private static final Pattern STEP = Pattern.compile("(?m)^(?:int (\\w+) = )?x\\.(\\w+)\\(([^)]*)\\); +// (-?\\d+): .*$");
    private static final Pattern CALL = Pattern.compile("(?m)^\\| `(\\w+\\([^)]*\\))` \\| (.*) \\|([^|]*)\\|$");
    private static final Pattern TEXT = Pattern.compile("(?m)^\\| `(water [^`]*)` \\| (-?\\d+) \\|$");
    private static final List<String> REASONS = List.of("BAD", "NO", "FULL");
    private static int looked = 0;
    private static int wrong = 0;

    public static void main(String[] args) throws Exception {
        String page = Files.readString(Path.of("README.md"));
        exampleAnswersSo(section(page, "### How one is made"));
        textsAreReadSo(section(page, "### How one is made"));
        everyCallIsThere(section(page, "### What its calls answer"));
        refusedSo(section(page, "### What a refused call answers"));
        everyTestIsThere(section(page, "## How to run its tests"));
        classesInsideAreThere(section(page, "## How it is built"));
        System.out.println(looked + " things looked at, " + wrong + " not as README.md says");
        if (wrong != 0) {
            System.exit(1);
        }
    }

    private static void same(String what, Object got, Object want) {
        looked++;
        if (!got.equals(want)) {
            wrong++;
            System.out.println(what + ": " + got + ", due is " + want);
        }
    }

    private static String section(String page, String heading) {
        int start = page.indexOf(heading + "\n");
        same("README.md has '" + heading + "'", start >= 0, true);
        String rest = start < 0 ? "" : page.substring(start + heading.length());
        Matcher next = Pattern.compile("(?m)^##").matcher(rest);
        return next.find() ? rest.substring(0, next.start()) : rest;
    }

    private static long call(GondolaTold x, String name, String arguments, Map<String, Integer> names) throws Exception {
        List<Object> values = new ArrayList<>();
        for (String word : arguments.isEmpty() ? new String[0] : arguments.split(", ")) {
            values.add(names.containsKey(word) ? names.get(word) : Integer.valueOf(word));
        }
        Class<?>[] types = new Class<?>[values.size()];
        Arrays.fill(types, int.class);
        return ((Number) GondolaTold.class.getMethod(name, types).invoke(x, values.toArray())).longValue();
    }

    private static void exampleAnswersSo(String section) throws Exception {
        String example = section.substring(section.indexOf("```java") + 7, section.lastIndexOf("```"));
        GondolaTold x = new GondolaTold();
        Map<String, Integer> names = new TreeMap<>();
        int steps = 0;
        for (Matcher m = STEP.matcher(example); m.find();) {
            steps++;
            long got = call(x, m.group(2), m.group(3), names);
            same(m.group(), got, Long.valueOf(m.group(4)));
            if (m.group(1) != null) {
                names.put(m.group(1), (int) got);
            }
        }
        same("every line of the example is a step but for the first", steps, example.strip().split("\n").length - 1);
    }

    private static void textsAreReadSo(String section) {
        int texts = 0;
        for (Matcher m = TEXT.matcher(section); m.find();) {
            texts++;
            same("read() of " + m.group(1), Check.read(new GondolaTold(), m.group(1)), Integer.valueOf(m.group(2)));
        }
        same("texts", texts, 2);
    }

    /** Every public call once, its parameters named as in the document, refused as the document says. */
    private static void everyCallIsThere(String section) throws IOException {
        String document = Files.readString(Path.of("../shared/DOC.md"));
        List<String> due = new ArrayList<>();
        Map<String, String> promised = new TreeMap<>();
        for (Matcher m = Pattern.compile("(?m)^`(?:int|long) (\\w+\\([^)]*\\))`: (.*)$").matcher(document); m.find();) {
            due.add(m.group(1).replace("int ", ""));
            promised.put(m.group(1).replace("int ", ""), m.group(2));
        }
        List<String> told = new ArrayList<>();
        for (Matcher m = CALL.matcher(section); m.find();) {
            told.add(m.group(1));
            String promise = promised.getOrDefault(m.group(1), "");
            same("why " + m.group(1) + " may be refused", reasonsIn(m.group(3)), reasonsDue(m.group(1), promise));
            same(m.group(1) + " answers -10 for BAD", m.group(3).contains("-10"), promise.contains("BAD: -10"));
        }
        same("the calls", told, due);
        same("how many", told.size(), 41);
    }

    private static List<String> reasonsIn(String words) {
        List<String> found = new ArrayList<>();
        for (Matcher m = Pattern.compile("\\b(BAD|NO|FULL)\\b").matcher(words); m.find();) {
            found.add(m.group());
        }
        return found;
    }

    /** What STATUS counts is named in its promise, too; it is only refused as BAD. */
    private static List<String> reasonsDue(String call, String promise) {
        return call.startsWith("status(") ? List.of("BAD") : reasonsIn(promise);
    }

    private static void refusedSo(String section) throws Exception {
        int rows = 0;
        for (Matcher m = CALL.matcher(section); m.find();) {
            rows++;
            GondolaTold x = new GondolaTold();
            String name = m.group(1).substring(0, m.group(1).indexOf('('));
            String arguments = m.group(1).substring(name.length() + 1, m.group(1).length() - 1);
            same(m.group(1), call(x, name, arguments, Map.of()), Long.valueOf(m.group(2)));
            for (int reason = 0; reason < 3; reason++) {
                int counted = m.group(3).strip().equals(REASONS.get(reason)) ? 1 : 0;
                same(m.group(1) + ", then status(" + reason + ")", x.status(reason), counted);
            }
        }
        same("rows of refused calls", rows, 12);
    }

    private static void everyTestIsThere(String section) throws IOException {
        Set<String> told = new TreeSet<>();
        for (Matcher m = Pattern.compile("`([A-Z]\\w+)`").matcher(section); m.find();) {
            told.add(m.group(1));
        }
        Set<String> files = new TreeSet<>();
        try (Stream<Path> paths = Files.list(Path.of("src/test/java"))) {
            paths.forEach(path -> files.add(path.getFileName().toString().replace(".java", "")));
        }
        told.remove("STATUS");
        same("the tests", told, files);
        same(".ci/run can be run", Files.isExecutable(Path.of(".ci/run")), true);
    }

    private static void classesInsideAreThere(String section) {
        for (Class<?> inside : GondolaTold.class.getDeclaredClasses()) {
            same("README.md tells of " + inside.getSimpleName(), section.contains("`" + inside.getSimpleName()), true);
        }
        for (Matcher m = Pattern.compile("`([A-Z]\\w+)\\.(\\w+)`").matcher(section); m.find();) {
            same(m.group() + " is there", isStaticMethod(m.group(1), m.group(2)), true);
        }
    }

    private static boolean isStaticMethod(String inside, String name) {
        for (Class<?> c : GondolaTold.class.getDeclaredClasses()) {
            for (Method m : c.getDeclaredMethods()) {
                if (c.getSimpleName().equals(inside) && m.getName().equals(name) && Modifier.isStatic(m.getModifiers())) {
                    return true;
                }
            }
        }
        return false;
    }
}
