import java.io.IOException;
import java.nio.file.Files;
import java.nio.file.Path;
import java.util.ArrayList;
import java.util.List;
import java.util.regex.Matcher;
import java.util.regex.Pattern;

/** "What it is", "The public face", the rows "Ahead of the calls ..": what no test by sentence says. */
public final class FaceTest {
    private static final int MOST_CALLS = 512;
    private static int wrong = 0;

    public static void main(String[] args) throws IOException {
        String document = Files.readString(Path.of("../shared/DOC.md"));
        String source = Files.readString(Path.of("src/main/java/GondolaTold.java"));
        theFaceIsThePrintedOne(document, source);
        aheadOfTheCalls(document, source);
        itIsUsedFor512Calls();
        System.out.println(wrong == 0 ? "the face is as printed" : wrong + " things are not as due");
        if (wrong != 0) {
            System.exit(1);
        }
    }

    private static void same(String what, Object got, Object want) {
        if (!got.equals(want)) {
            wrong++;
            System.out.println(what + " is " + got + ", due is " + want);
        }
    }

    /** Line by line and in the same order, parameters' names too. */
    private static void theFaceIsThePrintedOne(String document, String source) {
        String printed = between(document, "```java", "```");
        same("the public face", faceOf(source), faceOf(printed));
    }

    private static List<String> faceOf(String java) {
        List<String> face = new ArrayList<>();
        for (Matcher m = Pattern.compile("(?m)^ *(public [^{;]*?) ?[{;]").matcher(java); m.find();) {
            face.add(m.group(1));
        }
        return face;
    }

    private static void aheadOfTheCalls(String document, String source) {
        Matcher rows = Pattern.compile("Ahead of the calls ([^\n]*) the interface says: (---- [^.]*)\\.").matcher(document);
        int count = 0;
        while (rows.find()) {
            count++;
            List<String> calls = new ArrayList<>();
            for (Matcher m = Pattern.compile("`(\\w+)`").matcher(rows.group(1)); m.find();) {
                calls.add(m.group(1));
            }
            String part = between(source, "// " + rows.group(2) + "\n", "// ----");
            List<String> behind = new ArrayList<>();
            for (Matcher m = Pattern.compile("public \\w+ (\\w+)\\(").matcher(part); m.find();) {
                behind.add(m.group(1));
            }
            same("behind " + rows.group(2), behind, calls);
        }
        same("how many rows there are", count, 5);
    }

    private static String between(String text, String from, String to) {
        int start = text.indexOf(from);
        int end = start < 0 ? -1 : text.indexOf(to, start + from.length());
        return end < 0 ? "" : text.substring(start + from.length(), end);
    }

    private static void itIsUsedFor512Calls() {
        GondolaTold x = new GondolaTold();
        for (int call = 1; call < MOST_CALLS; call++) {
            same("undo() as call " + call, x.undo(), GondolaTold.NO);
        }
        same("status(1) as the last call", x.status(1), MOST_CALLS - 1);
        GondolaTold y = new GondolaTold();
        y.canal(0, 1, 9);
        y.rower(3, 0);
        y.guest(2, 40);
        for (int call = 4; call < MOST_CALLS; call++) {
            y.rows(0, 0, y.of(0, 4) == 0 ? 1 : 0);
            call++;
        }
        same("of(0, 5) as the last call", y.of(0, 5), 999);
    }
}
