import java.io.IOException;
import java.nio.file.Files;
import java.nio.file.Path;
import java.util.ArrayList;
import java.util.List;
import java.util.regex.Matcher;
import java.util.regex.Pattern;
import java.util.stream.Stream;

/** Every word of the document from its Terms to promise 42 stands in a sentence that a test by sentence says. */
public final class SentencesTest {
    private static final Pattern SAYS = Pattern.compile("Edge\\.says\\(\\s*(\\d+),\\s*(\"[^\"]*\"(?:\\s*\\+\\s*\"[^\"]*\")*)\\)");
    /** Headings, signs of the page and signatures are no sentences. */
    private static final Pattern NO_SENTENCE = Pattern.compile("^[^`]*`[^`]*`: |```text|```|======== 2");

    public static void main(String[] args) throws IOException {
        List<String[]> said = said();
        int missing = 0;
        int words = 0;
        for (int promise = 0; promise <= 42; promise++) {
            String section = Edge.section(promise);
            boolean[] covered = new boolean[section.length()];
            for (Matcher m = NO_SENTENCE.matcher(section); m.find();) {
                // The first section begins with no signature.
                if (promise != 0 || m.start() != 0) {
                    cover(covered, m.start(), m.end());
                }
            }
            for (String[] quote : said) {
                int at = quote[0].equals("" + promise) ? section.indexOf(quote[1]) : -1;
                if (at >= 0) {
                    cover(covered, at, at + quote[1].length());
                }
            }
            for (Matcher m = Pattern.compile("[A-Za-z0-9]+").matcher(section); m.find();) {
                words++;
                if (!covered[m.start()] || !covered[m.end() - 1]) {
                    missing++;
                    System.out.println("promise " + promise + ": no test says '" + m.group() + "' in '.. "
                            + section.substring(Math.max(0, m.start() - 30), Math.min(section.length(), m.end() + 30)) + " ..'");
                }
            }
        }
        System.out.println(said.size() + " sentences have a test, of " + words + " words " + missing + " are in none");
        if (missing != 0 || said.isEmpty()) {
            System.exit(1);
        }
    }

    private static void cover(boolean[] covered, int from, int to) {
        for (int i = from; i < to; i++) {
            covered[i] = true;
        }
    }

    private static List<String[]> said() throws IOException {
        List<String[]> said = new ArrayList<>();
        try (Stream<Path> files = Files.list(Path.of("src/test/java"))) {
            for (Path file : files.filter(f -> f.getFileName().toString().startsWith("Edges")).sorted().toList()) {
                for (Matcher m = SAYS.matcher(Files.readString(file)); m.find();) {
                    String words = m.group(2).replaceAll("\"\\s*\\+\\s*\"", "");
                    said.add(new String[] {m.group(1), words.substring(1, words.length() - 1)});
                }
            }
        }
        return said;
    }
}
