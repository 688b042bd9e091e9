import java.lang.reflect.Constructor;
import java.lang.reflect.Field;
import java.lang.reflect.Method;
import java.lang.reflect.Modifier;
import java.nio.file.Files;
import java.nio.file.Path;
import java.util.ArrayList;
import java.util.List;
import java.util.Set;
import java.util.TreeSet;
import java.util.regex.Matcher;
import java.util.regex.Pattern;

/** The face that the document prints, and those rules of LANGUAGE.md that can be looked up by machine. */
public final class LanguageTest {
    private static final List<String> FACE = List.of(
            "int water(int)", "int dark(int,int)", "int canal(int,int,int)", "int rower(int,int)", "int guest(int,int)",
            "int type(int)", "int clear()", "int read()", "int rows(int,int,int)", "int enters(int)", "int undo()",
            "int of(int,int)", "int who(int,int)", "int about(int,int)", "int strokes(int,int)", "int far(int,int)",
            "int would(int,int,int,int)", "int way(int,int,int)", "int gentle(int,int)", "int where(int,int)",
            "int share(int)", "int seen(int,int,int,int)", "int tongues(int)", "int tell(int)",
            "int note(int,int,int,int,int,int)", "int mark(int,int,int,int,int)", "int forget(int)", "int is(int)",
            "int look(int)", "int kinds(int)", "int ask(int)", "int lamp(int,int,int)", "int odds(int,int,int,int)",
            "int mean(int,int,int)", "int nights(int,int)", "long part(int)", "int image(int)", "int from(int)",
            "int status(int)", "int count(int)", "long digest()");
    /** Some 150 calls are in a round; the room would hold as much for each of them many times over. */
    private static final long MOST_BYTES_A_ROUND = 100_000;
    private static int wrong = 0;

    public static void main(String[] args) throws Exception {
        face();
        classesInside();
        words(Files.readString(Path.of("src/main/java/GondolaTold.java")));
        fewObjectsMade();
        System.out.println(wrong == 0 ? "the face and the language are as due" : wrong + " things are not as due");
        if (wrong != 0) {
            System.exit(1);
        }
    }

    private static void must(boolean holds, String what) {
        if (!holds) {
            wrong++;
            System.out.println("not so: " + what);
        }
    }

    private static void face() throws Exception {
        Class<?> c = GondolaTold.class;
        must(Modifier.isPublic(c.getModifiers()) && Modifier.isFinal(c.getModifiers()), "public and final");
        Set<String> shown = new TreeSet<>();
        Set<String> hidden = new TreeSet<>();
        for (Method m : c.getDeclaredMethods()) {
            if (Modifier.isPrivate(m.getModifiers())) {
                hidden.add(m.getName());
                continue;
            }
            must(Modifier.isPublic(m.getModifiers()) && !Modifier.isStatic(m.getModifiers()), m.getName() + " is public");
            List<String> types = new ArrayList<>();
            for (Class<?> t : m.getParameterTypes()) {
                types.add(t.getName());
            }
            shown.add(m.getReturnType().getName() + " " + m.getName() + "(" + String.join(",", types) + ")");
            must(m.getParameterCount() <= 7, m.getName() + " takes seven at most");
        }
        must(shown.equals(new TreeSet<>(FACE)), "the methods of the document: " + shown);
        for (String method : FACE) {
            String name = method.substring(method.indexOf(' ') + 1, method.indexOf('('));
            must(!hidden.contains(name), "no private method is called " + name);
        }
        Constructor<?>[] makers = c.getDeclaredConstructors();
        must(makers.length == 1 && Modifier.isPublic(makers[0].getModifiers()) && makers[0].getParameterCount() == 0,
                "one public constructor");
        Set<String> constants = new TreeSet<>();
        for (Field f : c.getDeclaredFields()) {
            if (!Modifier.isPrivate(f.getModifiers())) {
                constants.add(f.getName() + "=" + f.getInt(null));
            }
        }
        must(constants.equals(Set.of("NONE=-1", "BAD=-2", "NO=-3", "FULL=-4")), "the four constants: " + constants);
    }

    private static void classesInside() {
        Class<?>[] inside = GondolaTold.class.getDeclaredClasses();
        must(inside.length <= 12, "some twelve classes");
        for (Class<?> c : inside) {
            int m = c.getModifiers();
            must(Modifier.isStatic(m) && !Modifier.isPublic(m) && !Modifier.isProtected(m), c + " is static and hidden");
            int fields = 0;
            for (Field f : c.getDeclaredFields()) {
                fields += Modifier.isStatic(f.getModifiers()) ? 0 : 1;
                must(!Modifier.isStatic(f.getModifiers()) || Modifier.isFinal(f.getModifiers()), f + " is final");
            }
            must(fields <= 20, c + " has some twenty fields");
        }
    }

    private static void words(String source) {
        String bare = source.replaceAll("(?s)/\\*.*?\\*/", "").replaceAll("//[^\n]*", "").replaceAll("\"[^\"]*\"", "\"\"");
        Matcher none = Pattern.compile("\\b(throw|throws|try|catch|finally|synchronized|assert|package|native|volatile)\\b"
                + "|::|@|\\w+Exact\\(|\\b(hashCode|toString)\\(\\) \\{").matcher(bare);
        while (none.find()) {
            must(false, "no '" + none.group() + "'");
        }
        for (String line : bare.split("\n")) {
            must(!line.contains("->") || line.matches("\\s*(case .*|default) ->.*"), "no lambda: " + line.trim());
        }
        Matcher imports = Pattern.compile("\\bimport\\s+([^;]*);").matcher(bare);
        while (imports.find()) {
            must(imports.group(1).matches("java\\.util\\.(ArrayList|List|Arrays|Iterator)"), "no import of " + imports.group(1));
        }
        Matcher calls = Pattern.compile("\\b(System|Arrays|List|String|StringBuilder|Character|Thread|Objects)\\.(\\w+)").matcher(bare);
        Set<String> allowed = Set.of("System.arraycopy", "Arrays.copyOf", "Arrays.copyOfRange", "Arrays.fill", "List.of");
        while (calls.find()) {
            must(allowed.contains(calls.group()), "the library has " + calls.group());
        }
        must(source.chars().allMatch(ch -> ch == '\n' || ch >= 32 && ch < 127), "plain signs alone");
        int start = -1;
        String[] lines = source.split("\n");
        for (int i = 0; i < lines.length; i++) {
            if (lines[i].matches(" {4,8}(public |private |static )*\\w.*\\) \\{")) {
                start = i;
            }
            if (lines[i].matches(" {4,8}\\}") && start >= 0) {
                must(i - start <= 60, "a short method at line " + (start + 1));
                start = -1;
            }
        }
    }

    /** One room holds all calls of a run, so a round of all calls may make next to nothing. */
    private static void fewObjectsMade() {
        com.sun.management.ThreadMXBean bean =
                (com.sun.management.ThreadMXBean) java.lang.management.ManagementFactory.getThreadMXBean();
        GondolaTold x = new GondolaTold();
        everyCall(x);
        long before = bean.getCurrentThreadAllocatedBytes();
        for (int i = 0; i < 5; i++) {
            everyCall(x);
        }
        long made = (bean.getCurrentThreadAllocatedBytes() - before) / 5;
        must(made < MOST_BYTES_A_ROUND, "a round of all calls makes few objects, but made " + made + " bytes of them");
    }

    private static void everyCall(GondolaTold x) {
        String water = "water 6;canal 0 1 2;canal 1 7 3;canal 0 7 9;rower 3 4;rower 5 2;guest 2 30;guest 4 9;row 0 0 1;";
        x.clear();
        for (int i = 0; i < water.length(); i++) {
            x.type(water.charAt(i));
        }
        x.read();
        x.dark(1, 2);
        x.canal(0, 2, 3);
        x.rower(0, 1);
        x.guest(0, 9);
        x.rows(1, 1, 1);
        x.enters(1);
        x.image(0);
        x.undo();
        x.from(0);
        x.seen(0, 1, 1, 1);
        x.note(0, 9, 1, 1, 1, 1);
        x.mark(0, 1, 1, 1, 1);
        x.of(0, 1);
        x.who(0, 1);
        x.about(0, 1);
        x.strokes(0, 1);
        x.far(0, 7);
        x.would(0, 0, 7, 0);
        x.way(0, 0, 0);
        x.gentle(0, 0);
        x.where(0, 0);
        x.share(0);
        x.tongues(0);
        x.tell(0);
        x.is(0);
        x.look(0);
        x.kinds(0);
        x.ask(0);
        x.lamp(0, 0, 0);
        x.odds(0, 0, 4, 3);
        x.mean(0, 0, 3);
        x.nights(5, 60);
        x.part(0);
        x.status(9);
        x.count(3);
        x.digest();
        x.forget(0);
        x.water(3);
    }
}
