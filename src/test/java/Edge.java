import java.lang.reflect.InvocationTargetException;
import java.lang.reflect.Method;
import java.lang.reflect.Modifier;
import java.nio.file.Files;
import java.nio.file.Path;
import java.util.ArrayList;
import java.util.Arrays;
import java.util.Comparator;
import java.util.List;

/** What the tests by sentence share: each test says its sentence of the document first, and then holds the class to it. */
final class Edge {
    static final int MAX = Integer.MAX_VALUE;
    static final int MIN = Integer.MIN_VALUE;
    private static String sentence;
    private static int sentences = 0;
    private static int answers = 0;
    private static int wrong = 0;
    private static String document;

    private Edge() {
    }

    interface Make {
        GondolaTold make();
    }

    interface Act {
        long on(GondolaTold x);
    }

    interface ActWith {
        long on(GondolaTold x, int value);
    }

    /** Runs every test of a class: its static methods that take nothing and answer nothing. */
    static void all(Class<?> tests) throws Exception {
        Method[] methods = tests.getDeclaredMethods();
        Arrays.sort(methods, Comparator.comparing(Method::getName));
        for (Method m : methods) {
            if (!Modifier.isStatic(m.getModifiers()) || m.getParameterCount() > 0 || m.getReturnType() != void.class
                    || m.isSynthetic() || m.getName().equals("main")) {
                continue;
            }
            sentence = null;
            int before = answers;
            m.setAccessible(true);
            try {
                m.invoke(null);
            } catch (InvocationTargetException e) {
                fault(m.getName() + " threw " + e.getCause());
            }
            if (sentence == null || answers == before) {
                fault(m.getName() + " says no sentence, or looks at nothing");
            }
        }
        System.out.println(sentences + " sentences, " + answers + " answers looked at, " + wrong + " not as due");
        if (wrong != 0) {
            System.exit(1);
        }
    }

    /** The words stand in the section of that promise; 0: in the parts ahead of the promises. */
    static void says(int promise, String words) {
        sentence = "promise " + promise + ", \"" + words + "\"";
        sentences++;
        if (!section(promise).contains(words)) {
            fault("the document does not say it");
        }
    }

    static String section(int promise) {
        try {
            if (document == null) {
                document = Files.readString(Path.of("../shared/DOC.md")).replaceAll("\\s+", " ");
            }
        } catch (java.io.IOException e) {
            throw new IllegalStateException(e);
        }
        String from = promise == 0 ? "## Terms " : "## Promise " + promise + ": ";
        String to = promise == 42 ? "## Not promised" : promise == 0 ? "Ahead of the calls `water`" : "## Promise " + (promise + 1) + ": ";
        return document.substring(document.indexOf(from) + from.length(), document.indexOf(to));
    }

    private static void fault(String what) {
        wrong++;
        System.out.println(sentence + ": " + what);
    }

    static void due(String call, long got, long want) {
        answers++;
        if (got != want) {
            fault(call + " answered " + got + ", due is " + want);
        }
    }

    /** The call is refused with that answer: STATUS has one more of its reason (0 BAD, 1 NO, 2 FULL), all else stays. */
    static void refuses(String call, Make make, Act act, long answer, int reason) {
        GondolaTold x = make.make();
        GondolaTold twin = make.make();
        int[] before = {x.status(0), x.status(1), x.status(2)};
        due(call, act.on(x), answer);
        for (int i = 0; i < 3; i++) {
            due(call + ", then status(" + i + ")", x.status(i), before[i] + (i == reason ? 1 : 0));
        }
        same(call, x, twin);
    }

    /** The call is no refusal and changes nothing at all. */
    static void leaves(String call, Make make, Act act, long answer) {
        GondolaTold x = make.make();
        GondolaTold twin = make.make();
        due(call, act.on(x), answer);
        for (int i = 0; i < 3; i++) {
            due(call + ", then status(" + i + ")", x.status(i), twin.status(i));
        }
        same(call, x, twin);
    }

    /** Both ends are taken; what lies beyond each is refused as BAD with that answer. */
    static void range(String call, Make make, ActWith act, int least, int most, long bad) {
        for (int value : new int[] {least, most}) {
            GondolaTold x = make.make();
            int before = x.status(0) + x.status(1) + x.status(2);
            long got = act.on(x, value);
            due(call + " by " + value + " is refused", x.status(0) + x.status(1) + x.status(2), before);
            due(call + " by " + value + " answers " + bad, got == bad ? 1 : 0, 0);
        }
        for (int value : new int[] {least - 1, most + 1, MIN, MAX}) {
            refuses(call + " by " + value, make, x -> act.on(x, value), bad, 0);
        }
    }

    static void same(String call, GondolaTold x, GondolaTold twin) {
        List<Long> got = trace(x);
        List<Long> want = trace(twin);
        due(call + ", then all is as it was", got.equals(want) ? 1 : 0, 1);
    }

    /** All that can be known of an object but for STATUS: what it holds, undone step by step, its images, its text. */
    private static List<Long> trace(GondolaTold x) {
        List<Long> seen = new ArrayList<>();
        unwind(x, seen);
        for (int i = 0; i < 2; i++) {
            seen.add((long) x.from(i));
            unwind(x, seen);
        }
        seen.add((long) x.read());
        unwind(x, seen);
        return seen;
    }

    private static void unwind(GondolaTold x, List<Long> seen) {
        seen.add(x.digest());
        for (int i = 0; i < 9; i++) {
            seen.add((long) x.undo());
            seen.add(x.digest());
        }
    }

    static int refused(GondolaTold x) {
        return x.status(0) + x.status(1) + x.status(2);
    }

    static int read(GondolaTold x, String text) {
        return Check.read(x, text);
    }

    static GondolaTold water(String text) {
        GondolaTold x = new GondolaTold();
        if (read(x, text) < 0) {
            fault("no water: " + text);
        }
        return x;
    }

    static void type(GondolaTold x, String text) {
        for (int i = 0; i < text.length(); i++) {
            x.type(text.charAt(i));
        }
    }

    /** A canal between any two places, each as dark as its number. */
    static GondolaTold allCanals() {
        GondolaTold x = new GondolaTold();
        for (int a = 0; a < 8; a++) {
            x.dark(a, a);
            for (int b = a + 1; b < 8; b++) {
                x.canal(a, b, 1 + (a + b) % 9);
            }
        }
        return x;
    }

    /** Something of everything, nothing full: 2 rowers, 3 guests at places 2, 5 and 4, image 0, a text, a fraction. */
    static GondolaTold rich() {
        GondolaTold x = allCanals();
        x.rower(0, 5);
        x.rower(3, 4);
        x.guest(1, 20);
        x.guest(2, 30);
        x.guest(4, 9);
        x.rows(0, 0, 6);
        x.seen(0, 5, 13, 5);
        x.image(0);
        x.rows(0, 1, 2);
        x.rows(1, 1, 5);
        x.rows(2, 0, 4);
        x.seen(1, 6, 6, 5);
        x.note(1, 16, 4, 5, 3, 8);
        x.mark(1, 4, 6, 12, 6);
        type(x, "water 4;dark 3 1;");
        x.odds(0, 0, 12, 3);
        return x;
    }

    /** As much of everything as there can be. */
    static GondolaTold full() {
        GondolaTold x = allCanals();
        for (int i = 0; i < 4; i++) {
            x.rower(i, 5);
            x.guest(i, 30);
        }
        for (int i = 0; i < 9; i++) {
            x.rows(i % 4, i % 3, 2 + i % 3);
        }
        for (int i = 0; i < 6; i++) {
            x.seen(i % 3, i, 13, 5);
            x.note(i % 4, 16, 4, 5, i, 8);
            x.mark(i % 3, 4, i, 12, 6);
        }
        x.image(0);
        x.image(1);
        type(x, "water 4;dark 3 1;");
        for (int i = x.count(10); i < 150; i++) {
            x.type(' ');
        }
        return x;
    }
}
