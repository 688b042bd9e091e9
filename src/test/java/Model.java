import java.math.BigInteger;
import java.util.ArrayDeque;
import java.util.ArrayList;
import java.util.Arrays;
import java.util.Deque;
import java.util.HashMap;
import java.util.List;
import java.util.Map;
import java.util.function.IntBinaryOperator;
import java.util.function.IntUnaryOperator;
import java.util.regex.Matcher;
import java.util.regex.Pattern;

/**
 * The document once more, written from its words in another manner (lists, copies, regular expressions,
 * whole enumerations): ModelTest holds the class against it. Its methods bear the names of the calls.
 */
final class Model {
    /** A guest as {KIND, HOPE, KNOWS, HURT, PLACE, STROKES gone}, a rower as {KIND, TONGUE}. */
    static final class World {
        int[] dark = new int[8];
        int[][] canal = new int[8][8];
        List<int[]> rowers = new ArrayList<>();
        List<int[]> guests = new ArrayList<>();
        List<int[]> seen = new ArrayList<>();
        List<int[]> notes = new ArrayList<>();
        List<int[]> marks = new ArrayList<>();
        Deque<List<int[]>> past = new ArrayDeque<>();

        World(int d) {
            Arrays.fill(dark, d);
        }

        World copy() {
            World w = new World(0);
            w.dark = dark.clone();
            for (int p = 0; p < 8; p++) {
                w.canal[p] = canal[p].clone();
            }
            w.rowers = copied(rowers);
            w.guests = copied(guests);
            w.seen = copied(seen);
            w.notes = copied(notes);
            w.marks = copied(marks);
            for (List<int[]> one : past) {
                w.past.addLast(copied(one));
            }
            return w;
        }

        static List<int[]> copied(List<int[]> rows) {
            List<int[]> all = new ArrayList<>();
            for (int[] row : rows) {
                all.add(row.clone());
            }
            return all;
        }

        void keep() {
            past.addLast(copied(guests));
            if (past.size() > 8) {
                past.removeFirst();
            }
        }

        boolean can(int[] guest, int q) {
            return guest[4] != 7 && canal[guest[4]][q] != 0;
        }

        int[] rowed(int[] guest, int[] rower, int q, boolean heard) {
            int[] then = guest.clone();
            then[5] = Math.min(999, guest[5] + canal[guest[4]][q]);
            then[4] = q;
            if (heard) {
                int m = Math.min(told(rower[0], rower[1], dark[q], then[5]), guest[1] - guest[2]);
                then[3] = Math.min(999, guest[3] + hurts(guest[0], guest[1], guest[2], m, dark[q]));
                then[2] = guest[2] + m;
            }
            return then;
        }
    }

    static int told(int kind, int g, int d, int s) {
        switch (kind) {
            case 0: return g;
            case 1: return told(0, g, d, s) + 3;
            case 2: return d < 4 ? 0 : told(0, g, d, s);
            case 3: return told(2, g, d, s) + s / 6;
            case 4: return s < 10 ? 0 : told(3, g, d, s);
            case 5: return Math.max(0, told(1, g, d, s) - (s % 2 == 1 ? 2 : 0));
            default: throw new IllegalStateException();
        }
    }

    static int hurts(int kind, int h, int k, int m, int d) {
        switch (kind) {
            case 0: return m;
            case 1: return d < 5 ? 2 * hurts(0, h, k, m, d) : hurts(0, h, k, m, d);
            case 2: return hurts(0, h, k, m, d) + (m == 0 ? 0 : (h - k) / 4);
            case 3: return hurts(1, h, k, m, d) + (m == 0 ? 0 : 3);
            case 4: return m < 3 ? 0 : hurts(3, h, k, m, d);
            case 5: return Math.min(9, hurts(2, h, k, m, d));
            default: throw new IllegalStateException();
        }
    }

    World w = new World(3);
    final World[] images = new World[2];
    final StringBuilder text = new StringBuilder();
    BigInteger above = BigInteger.ZERO;
    BigInteger below = BigInteger.ONE;
    final int[] status = new int[3];

    private boolean in(int v, int a, int b) {
        return v >= a && v <= b;
    }

    private boolean g(int g) {
        return in(g, 0, w.guests.size() - 1);
    }

    private boolean r(int r) {
        return in(r, 0, w.rowers.size() - 1);
    }

    private int bad() {
        status[0]++;
        return -2;
    }

    private int bad10() {
        status[0]++;
        return -10;
    }

    private int no() {
        status[1]++;
        return -3;
    }

    private int full() {
        status[2]++;
        return -4;
    }

    public int water(int d) {
        if (!in(d, 0, 9)) return bad();
        int were = w.guests.size();
        w = new World(d);
        return were;
    }

    public int dark(int p, int d) {
        if (!in(p, 0, 7) || !in(d, 0, 9)) return bad();
        int was = w.dark[p];
        w.dark[p] = d;
        w.past.clear();
        return was;
    }

    public int canal(int a, int b, int s) {
        if (!in(a, 0, 7) || !in(b, 0, 7) || a == b || !in(s, 0, 9)) return bad();
        int was = w.canal[a][b];
        w.canal[a][b] = s;
        w.canal[b][a] = s;
        w.past.clear();
        return was;
    }

    public int rower(int kind, int tongue) {
        if (!in(kind, 0, 5) || !in(tongue, 0, 9)) return bad();
        if (w.rowers.size() == 3) return full();
        w.rowers.add(new int[] {kind, tongue});
        w.past.clear();
        return w.rowers.size() - 1;
    }

    public int guest(int kind, int hope) {
        if (!in(kind, 0, 5) || !in(hope, 1, 40)) return bad();
        if (w.guests.size() == 4) return full();
        w.guests.add(new int[] {kind, hope, 0, 0, 0, 0});
        w.past.clear();
        return w.guests.size() - 1;
    }

    public int type(int c) {
        if (!in(c, 0, 127)) return bad();
        if (text.length() == 150) return full();
        text.append((char) c);
        return text.length();
    }

    public int clear() {
        int had = text.length();
        text.setLength(0);
        return had;
    }

    private static final Pattern TOKEN = Pattern.compile(" *([a-z]+|[0-9]+|;|[^ ])");

    public int read() {
        List<String> tokens = new ArrayList<>();
        List<Integer> at = new ArrayList<>();
        Matcher matcher = TOKEN.matcher(text.toString().replace('\n', '\1').replace('\r', '\1'));
        int from = 0;
        while (matcher.find(from)) {
            tokens.add(matcher.group(1));
            at.add(matcher.start(1));
            from = matcher.end();
        }
        tokens.add("");
        at.add(text.length());
        World made = null;
        int items = 0;
        int t = 0;
        while (made == null || !tokens.get(t).isEmpty()) {
            String word = tokens.get(t);
            List<String> words = made == null ? List.of("water") : List.of("dark", "canal", "rower", "guest", "row");
            boolean over = word.equals("rower") && made != null && made.rowers.size() == 3
                    || word.equals("guest") && made != null && made.guests.size() == 4;
            if (!words.contains(word) || over) return -10 - at.get(t);
            t++;
            List<Integer> n = new ArrayList<>();
            int need = word.equals("water") ? 1 : word.startsWith("c") || word.equals("row") ? 3 : 2;
            while (n.size() < need) {
                String figures = tokens.get(t);
                if (!figures.matches("[0-9]{1,2}")) return -10 - at.get(t);
                n.add(Integer.parseInt(figures));
                if (!stands(made, word, n)) return -10 - at.get(t);
                t++;
            }
            if (!tokens.get(t).equals(";")) return -10 - at.get(t);
            t++;
            items++;
            if (word.equals("water")) made = new World(n.get(0));
            if (word.equals("dark")) made.dark[n.get(0)] = n.get(1);
            if (word.equals("canal")) {
                made.canal[n.get(0)][n.get(1)] = n.get(2);
                made.canal[n.get(1)][n.get(0)] = n.get(2);
            }
            if (word.equals("rower")) made.rowers.add(new int[] {n.get(0), n.get(1)});
            if (word.equals("guest")) made.guests.add(new int[] {n.get(0), n.get(1), 0, 0, 0, 0});
            if (word.equals("row")) {
                int[] guest = made.guests.get(n.get(0));
                made.guests.set(n.get(0), made.rowed(guest, made.rowers.get(n.get(1)), n.get(2), true));
            }
        }
        w = made;
        return items;
    }

    private boolean stands(World made, String word, List<Integer> n) {
        int i = n.size() - 1;
        int v = n.get(i);
        switch (word) {
            case "water": return v <= 9;
            case "dark": return v <= (i == 0 ? 7 : 9);
            case "canal": return i == 2 ? v <= 9 : v <= 7 && (i == 0 || v != n.get(0));
            case "rower": return v <= (i == 0 ? 5 : 9);
            case "guest": return i == 0 ? v <= 5 : v >= 1 && v <= 40;
            default:
                if (i == 0) return v < made.guests.size();
                if (i == 1) return v < made.rowers.size();
                return v <= 7 && made.can(made.guests.get(n.get(0)), v);
        }
    }

    public int rows(int g, int r, int q) {
        if (!g(g) || !r(r) || !in(q, 0, 7)) return bad();
        if (!w.can(w.guests.get(g), q)) return no();
        w.keep();
        w.guests.set(g, w.rowed(w.guests.get(g), w.rowers.get(r), q, true));
        return w.guests.get(g)[2];
    }

    public int enters(int g) {
        if (!g(g)) return bad();
        int was = w.guests.get(g)[4];
        if (was == 0) return no();
        w.keep();
        w.guests.get(g)[4] = 0;
        w.guests.get(g)[5] = 0;
        return was;
    }

    public int undo() {
        if (w.past.isEmpty()) return no();
        w.guests = w.past.removeLast();
        return w.past.size();
    }

    public int of(int g, int what) {
        return g(g) && in(what, 0, 5) ? w.guests.get(g)[what] : bad();
    }

    public int who(int r, int what) {
        return r(r) && in(what, 0, 1) ? w.rowers.get(r)[what] : bad();
    }

    public int about(int p, int what) {
        if (!in(p, 0, 7) || !in(what, 0, 2)) return bad();
        if (what == 0) return w.dark[p];
        return what == 1 ? bits(8, q -> w.canal[p][q] > 0 ? 1 : 0)
                : bits(w.guests.size(), g -> w.guests.get(g)[4] == p ? 1 : 0);
    }

    private static int bits(int n, IntUnaryOperator bit) {
        int all = 0;
        for (int i = 0; i < n; i++) {
            all += bit.applyAsInt(i) << i;
        }
        return all;
    }

    public int strokes(int a, int b) {
        return in(a, 0, 7) && in(b, 0, 7) ? w.canal[a][b] : bad();
    }

    public int far(int a, int b) {
        if (!in(a, 0, 7) || !in(b, 0, 7)) return bad();
        int[][] d = new int[8][8];
        for (int i = 0; i < 8; i++) {
            for (int j = 0; j < 8; j++) {
                d[i][j] = i == j ? 0 : w.canal[i][j] > 0 ? w.canal[i][j] : 9999;
            }
        }
        for (int k = 0; k < 8; k++) {
            for (int i = 0; i < 8; i++) {
                for (int j = 0; j < 8; j++) {
                    d[i][j] = Math.min(d[i][j], d[i][k] + d[k][j]);
                }
            }
        }
        return d[a][b] >= 9999 ? -1 : d[a][b];
    }

    public int would(int g, int r, int q, int what) {
        if (!g(g) || !r(r) || !in(q, 0, 7) || !in(what, 0, 1)) return bad();
        if (!w.can(w.guests.get(g), q)) return -1;
        return w.rowed(w.guests.get(g), w.rowers.get(r), q, true)[2 + what];
    }

    /** All ways as lists of places, each with the guest as one is there. */
    private List<List<Integer>> ways(int from) {
        List<List<Integer>> done = new ArrayList<>();
        Deque<List<Integer>> open = new ArrayDeque<>();
        open.add(List.of(from));
        while (!open.isEmpty()) {
            List<Integer> way = open.removeFirst();
            int last = way.get(way.size() - 1);
            for (int q = 0; q < 8 && last != 7; q++) {
                if (w.canal[last][q] > 0 && !way.contains(q)) {
                    List<Integer> more = new ArrayList<>(way);
                    more.add(q);
                    open.addLast(more);
                }
            }
            if (last == 7 && way.size() > 1) {
                done.add(way.subList(1, way.size()));
            }
        }
        return done;
    }

    private int[] along(int[] guest, int[] rower, List<Integer> way) {
        for (int q : way) {
            guest = w.rowed(guest, rower, q, true);
        }
        return guest;
    }

    private List<Integer> best(int g, int r) {
        int[] guest = w.guests.get(g);
        int[] rower = w.rowers.get(r);
        return ways(guest[4]).stream().min((a, b) -> {
            int[] x = along(guest, rower, a);
            int[] y = along(guest, rower, b);
            int c = Integer.compare(y[2], x[2]);
            c = c != 0 ? c : Integer.compare(x[3], y[3]);
            c = c != 0 ? c : Integer.compare(x[5], y[5]);
            for (int i = 0; c == 0 && i < Math.min(a.size(), b.size()); i++) {
                c = Integer.compare(a.get(i), b.get(i));
            }
            return c;
        }).orElse(null);
    }

    public int way(int g, int r, int k) {
        if (!g(g) || !r(r) || k < -4) return bad10();
        List<Integer> way = best(g, r);
        if (way == null) return -1;
        int[] there = along(w.guests.get(g), w.rowers.get(r), way);
        if (k == -4) return there[2];
        if (k == -3) return there[3];
        if (k == -2) return there[5];
        if (k == -1) return way.size();
        return k < way.size() ? way.get(k) : -5;
    }

    public int gentle(int g, int r) {
        if (!g(g) || !r(r)) return bad();
        int least = -1;
        for (List<Integer> way : ways(w.guests.get(g)[4])) {
            int[] there = along(w.guests.get(g), w.rowers.get(r), way);
            if (there[2] == there[1] && (least < 0 || there[3] < least)) {
                least = there[3];
            }
        }
        return least;
    }

    public int where(int g, int r) {
        if (!g(g) || !r(r)) return bad10();
        int[] guest = w.guests.get(g);
        if (guest[1] == guest[2]) return -3;
        List<Integer> way = best(g, r);
        if (way == null) return -4;
        for (int n = 1; n <= way.size(); n++) {
            int[] there = along(guest, w.rowers.get(r), way.subList(0, n));
            if (there[1] == there[2]) return n - 1;
        }
        return -1;
    }

    public int share(int g) {
        if (g != -3 && g != -2 && !g(g)) return bad10();
        int n = w.guests.size();
        int[][][] then = new int[n][3][];
        for (int i = 0; i < n; i++) {
            for (int r = 0; r < w.rowers.size(); r++) {
                List<Integer> way = best(i, r);
                then[i][r] = way == null ? null : along(w.guests.get(i), w.rowers.get(r), way);
            }
        }
        int[] bestPick = null;
        int bestKnows = 0;
        int bestHurt = 0;
        for (int code = 0; code < Math.pow(4, n); code++) {
            int[] pick = new int[n];
            int[] load = new int[4];
            int knows = 0;
            int hurt = 0;
            boolean can = true;
            for (int i = 0; i < n && can; i++) {
                pick[i] = (code >> 2 * (n - 1 - i) & 3) - 1;
                int[] guest = w.guests.get(i);
                int[] there = pick[i] < 0 ? guest : then[i][pick[i]];
                can = (guest[4] == 7) == (pick[i] < 0) && there != null;
                can = can && (pick[i] < 0 || ++load[pick[i]] <= 2);
                knows += can ? there[2] : 0;
                hurt += can ? there[3] : 0;
            }
            if (can && (bestPick == null || knows > bestKnows || knows == bestKnows && hurt < bestHurt)) {
                bestPick = pick;
                bestKnows = knows;
                bestHurt = hurt;
            }
        }
        if (bestPick == null) return -5;
        return g == -3 ? bestKnows : g == -2 ? bestHurt : bestPick[g];
    }

    public int seen(int r, int d, int s, int m) {
        if (!r(r) || !in(d, 0, 9) || !in(s, 0, 99) || !in(m, 0, 99)) return bad();
        if (w.seen.size() == 5) return full();
        w.seen.add(new int[] {r, d, s, m});
        return w.seen.size();
    }

    public int note(int g, int h, int k, int m, int d, int x) {
        if (!g(g) || !in(h, 1, 40) || !in(k, 0, h) || !in(m, 0, 20) || !in(d, 0, 9) || !in(x, 0, 60)) return bad();
        if (w.notes.size() == 6) return full();
        w.notes.add(new int[] {g, h, k, m, d, x});
        return w.notes.size();
    }

    public int mark(int r, int t, int d, int s, int m) {
        if (!r(r) || !in(t, 0, 9) || !in(d, 0, 9) || !in(s, 0, 99) || !in(m, 0, 99)) return bad();
        if (w.marks.size() == 6) return full();
        w.marks.add(new int[] {r, t, d, s, m});
        return w.marks.size();
    }

    public int forget(int what) {
        if (!in(what, 0, 2)) return bad();
        List<int[]> rows = List.of(w.seen, w.notes, w.marks).get(what);
        int had = rows.size();
        rows.clear();
        return had;
    }

    public int tongues(int r) {
        if (!r(r)) return bad();
        int kind = w.rowers.get(r)[0];
        return bits(10, t -> w.seen.stream().allMatch(x -> x[0] != r || told(kind, t, x[1], x[2]) == x[3]) ? 1 : 0);
    }

    public int is(int g) {
        if (!g(g)) return bad();
        return bits(6, kind -> w.notes.stream()
                .allMatch(x -> x[0] != g || hurts(kind, x[1], x[2], x[3], x[4]) == x[5]) ? 1 : 0);
    }

    public int kinds(int r) {
        if (!r(r)) return bad();
        return bits(6, kind -> w.marks.stream()
                .allMatch(x -> x[0] != r || told(kind, x[1], x[2], x[3]) == x[4]) ? 1 : 0);
    }

    /** The least of 100 d and y by which the greatest group of alike answers is smallest. */
    private int split(int fitting, int lastY, Map<Integer, IntBinaryOperator> answers) {
        int best = -1;
        int fewest = 99;
        for (int d = 0; d <= 9; d++) {
            for (int y = 0; y <= lastY; y++) {
                Map<Integer, Integer> groups = new HashMap<>();
                for (int i = 0; i < 10; i++) {
                    if ((fitting >> i & 1) == 1) {
                        groups.merge(answers.get(i).applyAsInt(d, y), 1, Integer::sum);
                    }
                }
                int most = groups.values().stream().mapToInt(v -> v).max().orElse(99);
                if (most < fewest) {
                    fewest = most;
                    best = 100 * d + y;
                }
            }
        }
        return best;
    }

    public int tell(int r) {
        if (!r(r)) return bad();
        Map<Integer, IntBinaryOperator> answers = new HashMap<>();
        for (int i = 0; i < 10; i++) {
            int t = i;
            answers.put(i, (d, s) -> told(w.rowers.get(r)[0], t, d, s));
        }
        return split(tongues(r), 30, answers);
    }

    public int look(int g) {
        if (!g(g)) return bad();
        Map<Integer, IntBinaryOperator> answers = new HashMap<>();
        for (int i = 0; i < 6; i++) {
            int kind = i;
            answers.put(i, (d, m) -> hurts(kind, w.guests.get(g)[1], w.guests.get(g)[2], m, d));
        }
        return split(is(g), 20, answers);
    }

    public int ask(int r) {
        if (!r(r)) return bad();
        Map<Integer, IntBinaryOperator> answers = new HashMap<>();
        for (int i = 0; i < 6; i++) {
            int kind = i;
            answers.put(i, (d, s) -> told(kind, w.rowers.get(r)[1], d, s));
        }
        return split(kinds(r), 30, answers);
    }

    public int lamp(int g, int r, int k) {
        if (!g(g) || !r(r) || k < -1) return bad10();
        int[] guest = w.guests.get(g);
        int[] rower = w.rowers.get(r);
        int[][] toGuest = new int[4][4];
        int[][] toRower = new int[4][4];
        for (int i = 0; i < 4; i++) {
            for (int j = 0; j < 4; j++) {
                int d = 9 - 3 * Math.min(i, j);
                int m = Math.min(told(rower[0], rower[1], d, guest[5]), guest[1] - guest[2]);
                int hurt = hurts(guest[0], guest[1], guest[2], m, d);
                toGuest[i][j] = 10 - hurt - i;
                toRower[i][j] = 10 - hurt - 2 * j;
            }
        }
        List<Integer> rest = new ArrayList<>();
        for (int i = 0; i < 4; i++) {
            for (int j = 0; j < 4; j++) {
                int mostGuest = -999;
                int mostRower = -999;
                for (int o = 0; o < 4; o++) {
                    mostGuest = Math.max(mostGuest, toGuest[o][j]);
                    mostRower = Math.max(mostRower, toRower[i][o]);
                }
                if (toGuest[i][j] == mostGuest && toRower[i][j] == mostRower) {
                    rest.add(10 * i + j);
                }
            }
        }
        return k == -1 ? rest.size() : k < rest.size() ? rest.get(k) : -5;
    }

    /** Each state that can be at the Salute, as {KNOWS, HURT} in one number, with its weight. */
    private Map<Integer, BigInteger> outcomes(int g, int r, int c, List<Integer> way) {
        Map<Integer, BigInteger> now = new HashMap<>();
        int[] first = w.guests.get(g);
        now.put(first[2] * 1000 + first[3], BigInteger.ONE);
        int place = first[4];
        int gone = first[5];
        for (int q : way) {
            Map<Integer, BigInteger> next = new HashMap<>();
            for (Map.Entry<Integer, BigInteger> e : now.entrySet()) {
                int[] guest = {first[0], first[1], e.getKey() / 1000, e.getKey() % 1000, place, gone};
                int[] then = w.rowed(guest, w.rowers.get(r), q, true);
                next.merge(e.getKey(), e.getValue().multiply(BigInteger.valueOf(c)), BigInteger::add);
                next.merge(then[2] * 1000 + then[3], e.getValue().multiply(BigInteger.valueOf(10 - c)), BigInteger::add);
            }
            gone = Math.min(999, gone + w.canal[place][q]);
            place = q;
            now = next;
        }
        return now;
    }

    private void fraction(BigInteger a, BigInteger b) {
        BigInteger d = a.gcd(b);
        above = a.divide(d);
        below = b.divide(d);
    }

    public int odds(int g, int r, int x, int c) {
        if (!g(g) || !r(r) || !in(x, 0, 40) || !in(c, 0, 10)) return bad();
        List<Integer> way = best(g, r);
        if (way == null) return no();
        BigInteger sum = BigInteger.ZERO;
        for (Map.Entry<Integer, BigInteger> e : outcomes(g, r, c, way).entrySet()) {
            sum = e.getKey() / 1000 >= x ? sum.add(e.getValue()) : sum;
        }
        fraction(sum, BigInteger.TEN.pow(way.size()));
        return 1;
    }

    public int mean(int g, int r, int c) {
        if (!g(g) || !r(r) || !in(c, 0, 10)) return bad();
        List<Integer> way = best(g, r);
        if (way == null) return no();
        BigInteger sum = BigInteger.ZERO;
        for (Map.Entry<Integer, BigInteger> e : outcomes(g, r, c, way).entrySet()) {
            sum = sum.add(e.getValue().multiply(BigInteger.valueOf(e.getKey() % 1000)));
        }
        fraction(sum, BigInteger.TEN.pow(way.size()));
        return 1;
    }

    public int nights(int seed, int n) {
        if (!in(seed, 0, 999999) || !in(n, 0, 60)) return bad();
        World was = w;
        w = w.copy();
        BigInteger x = BigInteger.valueOf(seed);
        for (int i = 0; i < n; i++) {
            x = x.multiply(BigInteger.valueOf(1103515245)).add(BigInteger.valueOf(12345)).mod(BigInteger.ONE.shiftLeft(31));
            int g = x.shiftRight(16).intValue() % 4;
            int r = x.shiftRight(18).intValue() % 3;
            int q = x.shiftRight(20).intValue() % 8;
            if (g(g) && r(r) && w.can(w.guests.get(g), q)) {
                w.guests.set(g, w.rowed(w.guests.get(g), w.rowers.get(r), q, true));
            } else if (g(g) && w.guests.get(g)[4] == 7) {
                w.guests.get(g)[4] = 0;
                w.guests.get(g)[5] = 0;
            }
        }
        int told = Integer.bitCount(count(3));
        w = was;
        return told;
    }

    public long part(int what) {
        if (!in(what, 0, 1)) return bad();
        return (what == 0 ? above : below).longValueExact();
    }

    public int image(int i) {
        if (!in(i, 0, 1)) return bad();
        images[i] = w.copy();
        return 1;
    }

    public int from(int i) {
        if (!in(i, 0, 1)) return bad();
        if (images[i] == null) return no();
        w = images[i].copy();
        return 1;
    }

    public int status(int what) {
        if (in(what, 0, 2)) return status[what];
        bad();
        return -1;
    }

    public int count(int what) {
        int canals = 0;
        int knows = 0;
        int hurt = 0;
        for (int a = 0; a < 8; a++) {
            for (int b = 0; b < a; b++) {
                canals += w.canal[a][b] > 0 ? 1 : 0;
            }
        }
        for (int[] guest : w.guests) {
            knows += guest[2];
            hurt += guest[3];
        }
        int told = bits(w.guests.size(), i -> w.guests.get(i)[1] == w.guests.get(i)[2] ? 1 : 0);
        int[] all = {canals, w.rowers.size(), w.guests.size(), told, knows, hurt, w.seen.size(), w.notes.size(),
            w.marks.size(), w.past.size(), text.length()};
        return in(what, 0, 10) ? all[what] : bad();
    }

    public long digest() {
        List<Long> v = new ArrayList<>();
        for (int i = 0; i <= 10; i++) v.add((long) count(i));
        for (int d : w.dark) v.add((long) d);
        for (int a = 0; a <= 6; a++) {
            for (int b = a + 1; b <= 7; b++) v.add((long) w.canal[a][b]);
        }
        for (List<int[]> rows : List.of(w.rowers, w.guests, w.seen, w.notes, w.marks)) {
            for (int[] row : rows) {
                for (int cell : row) v.add((long) cell);
            }
        }
        v.add(above.longValueExact());
        v.add(below.longValueExact());
        long h = 1847;
        for (long x : v) h = 31 * h + x;
        return h;
    }
}
