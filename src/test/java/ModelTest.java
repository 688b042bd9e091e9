import java.lang.reflect.Method;
import java.util.Arrays;
import java.util.Map;
import java.util.Random;
import java.util.TreeMap;

/** Runs of calls drawn by a seed, on the class and on the model; each answer and the state behind it must agree. */
public final class ModelTest {
    private static final int RUNS = 1500;
    private static final int CALLS = 170;

    /** For each call how often it is drawn, then least and most of each argument as it should be. */
    private static final Object[][] CALLS_DRAWN = {
        {"water", 1, 0, 9}, {"dark", 2, 0, 7, 0, 9}, {"canal", 4, 0, 7, 0, 7, 0, 9}, {"rower", 2, 0, 5, 0, 9},
        {"guest", 2, 0, 5, 1, 40}, {"type", 2, 0, 127}, {"clear", 1}, {"read", 1},
        {"rows", 20, 0, 3, 0, 2, 0, 7}, {"enters", 5, 0, 3}, {"undo", 6}, {"of", 2, 0, 3, 0, 5},
        {"who", 2, 0, 2, 0, 1}, {"about", 3, 0, 7, 0, 2}, {"strokes", 2, 0, 7, 0, 7}, {"far", 4, 0, 7, 0, 7},
        {"would", 6, 0, 3, 0, 2, 0, 7, 0, 1}, {"way", 6, 0, 3, 0, 2, -4, 7}, {"gentle", 3, 0, 3, 0, 2},
        {"where", 3, 0, 3, 0, 2}, {"share", 2, -3, 3}, {"seen", 4, 0, 2, 0, 9, 0, 99, 0, 99},
        {"tongues", 4, 0, 2}, {"tell", 2, 0, 2}, {"note", 4, 0, 3, 1, 40, 0, 40, 0, 20, 0, 9, 0, 60},
        {"mark", 4, 0, 2, 0, 9, 0, 9, 0, 99, 0, 99}, {"forget", 1, 0, 2}, {"is", 4, 0, 3}, {"look", 3, 0, 3},
        {"kinds", 4, 0, 2}, {"ask", 3, 0, 2}, {"lamp", 6, 0, 3, 0, 2, -1, 6}, {"odds", 4, 0, 3, 0, 2, 0, 40, 0, 10},
        {"mean", 4, 0, 3, 0, 2, 0, 10}, {"nights", 3, 0, 999999, 0, 60}, {"part", 1, 0, 1}, {"image", 2, 0, 1},
        {"from", 2, 0, 1}, {"status", 3, 0, 2}, {"count", 3, 0, 10}, {"digest", 1},
    };

    private static final Map<String, Method> CLASS_CALLS = new TreeMap<>();
    private static final Map<String, Method> MODEL_CALLS = new TreeMap<>();
    private static int calls = 0;
    private static int wrong = 0;
    private static GondolaTold told;
    private static Model model;
    private static StringBuilder story;

    public static void main(String[] args) throws Exception {
        for (Method m : GondolaTold.class.getDeclaredMethods()) {
            CLASS_CALLS.put(m.getName(), m);
        }
        for (Method m : Model.class.getDeclaredMethods()) {
            if (CLASS_CALLS.containsKey(m.getName()) && java.lang.reflect.Modifier.isPublic(m.getModifiers())) {
                MODEL_CALLS.put(m.getName(), m);
            }
        }
        for (int run = 0; run < RUNS && wrong < 5; run++) {
            run(new Random(run));
        }
        System.out.println(calls + " calls held against the model, " + wrong + " wrong");
        if (wrong != 0) {
            System.exit(1);
        }
    }

    private static void run(Random random) throws Exception {
        told = new GondolaTold();
        model = new Model();
        story = new StringBuilder();
        int before = wrong;
        int total = 0;
        for (Object[] row : CALLS_DRAWN) {
            total += (Integer) row[1];
        }
        for (int i = 0; i < CALLS && wrong == before; i++) {
            if ((told.count(1) == 0 || told.count(2) == 0) && random.nextInt(6) == 0) {
                settle(random);
            }
            if (random.nextInt(50) == 0) {
                tellWater(random);
                continue;
            }
            if (random.nextInt(20) == 0) {
                fittingRecord(random);
                continue;
            }
            if (random.nextInt(4) == 0) {
                wander(random);
                continue;
            }
            int draw = random.nextInt(total);
            int at = 0;
            while (draw >= (Integer) CALLS_DRAWN[at][1]) {
                draw -= (Integer) CALLS_DRAWN[at][1];
                at++;
            }
            call((String) CALLS_DRAWN[at][0], draw(random, CALLS_DRAWN[at]));
        }
    }

    /** Few random calls make a water that is worth it, so one that is empty soon becomes such a one. */
    private static void settle(Random random) throws Exception {
        for (int i = 0; i < 3 + random.nextInt(14); i++) {
            call("canal", random.nextInt(8), random.nextInt(8), 1 + random.nextInt(9));
        }
        for (int p = 0; p < 8; p++) {
            call("dark", p, random.nextInt(10));
        }
        for (int i = 0; i < 1 + random.nextInt(3); i++) {
            call("rower", random.nextInt(6), random.nextInt(10));
        }
        for (int i = 0; i < 1 + random.nextInt(4); i++) {
            call("guest", random.nextInt(6), 1 + random.nextInt(40));
        }
    }

    /** Most draws of rows() are refused, so some follow a canal; in a row, so that there is much to undo. */
    private static void wander(Random random) throws Exception {
        int guests = told.count(2);
        int rowers = told.count(1);
        for (int i = 0; i < 3 && guests > 0 && rowers > 0; i++) {
            int g = random.nextInt(guests);
            int canals = told.about(told.of(g, 4), 1);
            for (int q = random.nextInt(8); q < 8; q++) {
                if ((canals >> q & 1) == 1) {
                    call("rows", g, random.nextInt(rowers), q);
                    break;
                }
            }
            if (told.of(g, 4) == 7 && random.nextInt(3) == 0) {
                call("enters", g);
            }
        }
    }

    private static Object[] draw(Random random, Object[] row) {
        Object[] args = new Object[row.length / 2 - 1];
        int odd = random.nextInt(8) == 0 && args.length > 0 ? random.nextInt(args.length) : -1;
        for (int i = 0; i < args.length; i++) {
            int least = (Integer) row[2 + 2 * i];
            int most = (Integer) row[3 + 2 * i];
            int[] edges = {least - 1, most + 1, least, most, Integer.MAX_VALUE, Integer.MIN_VALUE};
            args[i] = i == odd ? edges[random.nextInt(edges.length)] : least + random.nextInt(most - least + 1);
        }
        return args;
    }

    /** What is seen at random hardly ever fits, so some are made to. */
    private static void fittingRecord(Random random) throws Exception {
        int kind = random.nextInt(6);
        int tongue = random.nextInt(10);
        int d = random.nextInt(10);
        int s = random.nextInt(40);
        if (random.nextBoolean()) {
            call("mark", random.nextInt(3), tongue, d, s, Model.told(kind, tongue, d, s));
            call("seen", random.nextInt(3), d, s, Model.told(kind, tongue, d, s));
        } else {
            int h = 1 + random.nextInt(40);
            int k = random.nextInt(h + 1);
            int m = random.nextInt(21);
            call("note", random.nextInt(4), h, k, m, d, Model.hurts(kind, h, k, m, d));
        }
    }

    private static void tellWater(Random random) throws Exception {
        StringBuilder text = new StringBuilder("water " + random.nextInt(10) + ";");
        int items = random.nextInt(12);
        for (int i = 0; i < items; i++) {
            text.append(item(random));
        }
        int faults = random.nextInt(3);
        String signs = " ;;0123456789adrw# Z\n";
        for (int i = 0; i < faults; i++) {
            int at = random.nextInt(text.length());
            char sign = signs.charAt(random.nextInt(signs.length()));
            switch (random.nextInt(4)) {
                case 0 -> text.setCharAt(at, sign);
                case 1 -> text.insert(at, sign);
                case 2 -> text.deleteCharAt(at);
                default -> text.setLength(at + 1);
            }
        }
        call("clear");
        for (int i = 0; i < text.length(); i++) {
            call("type", (int) text.charAt(i));
        }
        call("read");
    }

    private static String item(Random random) {
        String gap = random.nextInt(5) == 0 ? "  " : "";
        switch (random.nextInt(7)) {
            case 0: return gap + "dark " + random.nextInt(8) + " " + random.nextInt(10) + ";";
            case 1: return gap + "rower " + random.nextInt(6) + " " + random.nextInt(10) + gap + ";";
            case 2: return "guest " + random.nextInt(6) + " " + (1 + random.nextInt(40)) + ";" + gap;
            case 3: return gap + "row " + random.nextInt(2) + " " + random.nextInt(2) + " " + random.nextInt(8) + ";";
            case 4: return "canal 0 " + (1 + random.nextInt(7)) + " 0" + (1 + random.nextInt(9)) + gap + ";";
            default:
                return "canal " + random.nextInt(8) + gap + " " + random.nextInt(8) + " " + random.nextInt(10) + ";";
        }
    }

    private static void call(String name, Object... args) throws Exception {
        calls++;
        long got = ((Number) CLASS_CALLS.get(name).invoke(told, args)).longValue();
        long want = ((Number) MODEL_CALLS.get(name).invoke(model, args)).longValue();
        story.append("  ").append(name).append(Arrays.toString(args)).append(" -> ").append(want).append('\n');
        boolean same = got == want && told.digest() == model.digest();
        for (int i = 0; i < 3; i++) {
            same = same && told.status(i) == model.status(i);
        }
        if (!same) {
            wrong++;
            System.out.println(story + name + Arrays.toString(args) + " answered " + got + ", due is " + want
                    + "; digest " + told.digest() + ", due is " + model.digest());
        }
    }
}
