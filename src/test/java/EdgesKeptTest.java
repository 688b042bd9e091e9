import java.util.ArrayList;
import java.util.List;

/** IMAGES, STATUS, what is refused, and promises 38 to 42: sentence by sentence. */
public final class EdgesKeptTest {
    public static void main(String[] args) throws Exception {
        Edge.all(EdgesKeptTest.class);
    }

    // ---- IMAGES

    private static void imagesKeepAll() {
        Edge.says(0, "IMAGES 0, 1 keep all but them,");
        for (int i = 0; i < 2; i++) {
            GondolaTold x = Edge.full();
            long then = x.digest();
            x.image(i);
            x.water(1);
            x.from(i);
            Edge.due("all is as it was", x.digest(), then);
            Edge.due("of(0, 4)", x.of(0, 4), 4);
            Edge.due("count(0)", x.count(0), 28);
        }
    }

    /** All that was kept is put over by other things first. */
    private static void imagesKeepWhatIsPutOver() {
        Edge.says(0, "IMAGES 0, 1 keep all");
        for (int i = 0; i < 2; i++) {
            GondolaTold x = Edge.full();
            x.image(i);
            List<Long> want = undone(x);
            x.water(9);
            x.canal(0, 1, 3);
            for (int n = 0; n < 6; n++) {
                x.rower(5, 9);
                x.guest(5, 40);
                x.seen(2, 9, 98, 97);
                x.note(3, 40, 39, 19, 9, 58);
                x.mark(2, 8, 9, 98, 97);
            }
            for (int n = 1; n <= 8; n++) {
                x.rows(0, 2, n % 2);
            }
            Edge.due("from(" + i + ")", x.from(i), 1);
            Edge.due("all is as it was, and what may be undone", undone(x).equals(want) ? 1 : 0, 1);
        }
    }

    /** What all is like, step by step undone. */
    private static List<Long> undone(GondolaTold x) {
        List<Long> seen = new ArrayList<>();
        seen.add(x.digest());
        for (int i = 0; i < 9; i++) {
            seen.add((long) x.undo());
            seen.add(x.digest());
        }
        return seen;
    }

    private static void imagesKeepNoImages() {
        Edge.says(0, "keep all but them");
        GondolaTold x = Edge.rich();
        x.image(0);
        x.dark(1, 9);
        x.image(1);
        x.from(0);
        Edge.due("as it was in 0", x.about(1, 0), 1);
        Edge.due("1 is still there", x.from(1), 1);
        Edge.due("as it was in 1", x.about(1, 0), 9);
        x.dark(1, 5);
        x.image(0);
        x.from(1);
        Edge.due("1 is as it was", x.about(1, 0), 9);
        x.from(0);
        Edge.due("0 was kept anew", x.about(1, 0), 5);
    }

    private static void imagesKeepNoText() {
        Edge.says(0, "THE TEXT, THE FRACTION and STATUS;");
        GondolaTold x = Edge.rich();
        x.image(1);
        x.clear();
        Edge.type(x, "water 9;");
        x.odds(0, 0, 40, 10);
        x.dark(8, 8);
        x.rows(0, 0, 2);
        Edge.due("from(1)", x.from(1), 1);
        Edge.due("the text", x.count(10), 8);
        Edge.due("above", x.part(0), 0);
        Edge.due("below", x.part(1), 1);
        Edge.due("status(0)", x.status(0), 1);
        Edge.due("status(1)", x.status(1), 1);
        Edge.due("it can be read", x.read(), 1);
    }

    private static void imagesKeepWhatMayBeUndone() {
        Edge.says(0, "what may be undone they keep;");
        GondolaTold x = Edge.full();
        x.image(1);
        List<Long> want = undone(x);
        for (int time = 0; time < 2; time++) {
            x.from(1);
            Edge.due("it is undone as before", undone(x).equals(want) ? 1 : 0, 1);
        }
        x.from(1);
        x.undo();
        x.rows(0, 0, 7);
        x.from(1);
        Edge.due("it is no other for what came of it", undone(x).equals(want) ? 1 : 0, 1);
    }

    private static void itGoesOnFromAnImage() {
        Edge.says(0, "it goes on from one.");
        GondolaTold x = Edge.rich();
        x.from(0);
        Edge.due("guest 0 is where one was", x.of(0, 4), 6);
        Edge.due("guest 1 is not rowed yet", x.of(1, 4), 0);
        Edge.due("one was seen", x.count(6), 1);
        Edge.due("it goes on", x.rows(1, 0, 7), 5);
        Edge.due("seen(0, 1, 1, 1)", x.seen(0, 1, 1, 1), 2);
        Edge.due("undo()", x.undo(), 1);
    }

    private static void imageAnswers() {
        Edge.says(38, "An IMAGE is kept: 1.");
        GondolaTold x = new GondolaTold();
        Edge.due("image(0): of nothing", x.image(0), 1);
        Edge.due("image(1)", x.image(1), 1);
        Edge.due("image(1) again", x.image(1), 1);
        x.dark(0, 9);
        x.image(1);
        x.from(0);
        Edge.due("the first is as it was", x.about(0, 0), 3);
        x.from(1);
        Edge.due("the last counts", x.about(0, 0), 9);
    }

    private static void imageChangesNothingElse() {
        Edge.says(38, "An IMAGE is kept");
        GondolaTold x = Edge.rich();
        long then = x.digest();
        x.image(1);
        Edge.due("digest()", x.digest(), then);
        Edge.due("undo()", x.undo(), 3);
        x.from(0);
        Edge.due("the other one is as it was", x.of(1, 4), 0);
    }

    private static void imageIsBad() {
        Edge.says(38, "BAD.");
        Edge.range("image(value)", Edge::rich, (x, v) -> x.image(v), 0, 1, -2);
    }

    private static void fromAnswers() {
        Edge.says(39, "It goes on from an IMAGE: 1.");
        GondolaTold x = Edge.full();
        Edge.due("from(0)", x.from(0), 1);
        Edge.due("from(1)", x.from(1), 1);
        Edge.due("from(0) again", x.from(0), 1);
    }

    private static void fromIsBad() {
        Edge.says(39, "BAD;");
        Edge.range("from(value)", Edge::full, (x, v) -> x.from(v), 0, 1, -2);
    }

    private static void fromIsNo() {
        Edge.says(39, "NO: none was kept.");
        Edge.refuses("from(0)", GondolaTold::new, x -> x.from(0), -3, 1);
        Edge.refuses("from(1)", Edge::rich, x -> x.from(1), -3, 1);
        GondolaTold x = new GondolaTold();
        x.image(1);
        Edge.due("the other one", x.from(0), -3);
        Edge.due("this one", x.from(1), 1);
        x.water(1);
        Edge.due("a water leaves it", x.from(1), 1);
    }

    // ---- STATUS and what is refused

    private static void statusCountsByReason() {
        Edge.says(0, "STATUS: how many calls were refused as BAD, NO, FULL");
        GondolaTold x = Edge.full();
        int[] before = {x.status(0), x.status(1), x.status(2)};
        for (int i = 0; i < 3; i++) {
            x.water(10);
        }
        for (int i = 0; i < 2; i++) {
            x.rows(0, 0, x.of(0, 4));
        }
        for (int i = 0; i < 4; i++) {
            x.guest(0, 1);
        }
        Edge.due("BAD", x.status(0), before[0] + 3);
        Edge.due("NO", x.status(1), before[1] + 2);
        Edge.due("FULL", x.status(2), before[2] + 4);
    }

    /** Every call that can be refused, once for each reason. */
    private static void eachAnswerToldSoCounts() {
        Edge.says(0, "(each answer told so below is such a one).");
        Edge.Act[] bad = {x -> x.water(10), x -> x.dark(8, 0), x -> x.canal(0, 0, 0), x -> x.rower(6, 0), x -> x.guest(6, 1),
            x -> x.type(128), x -> x.rows(4, 0, 0), x -> x.enters(4), x -> x.of(4, 0), x -> x.who(3, 0), x -> x.about(8, 0),
            x -> x.strokes(8, 0), x -> x.far(8, 0), x -> x.would(4, 0, 0, 0), x -> x.gentle(4, 0), x -> x.seen(3, 0, 0, 0),
            x -> x.tongues(3), x -> x.tell(3), x -> x.note(4, 1, 0, 0, 0, 0), x -> x.mark(3, 0, 0, 0, 0), x -> x.forget(3),
            x -> x.is(4), x -> x.look(4), x -> x.kinds(3), x -> x.ask(3), x -> x.odds(4, 0, 0, 0), x -> x.mean(4, 0, 0),
            x -> x.nights(-1, 0), x -> x.part(2), x -> x.image(2), x -> x.from(2), x -> x.count(11)};
        for (int i = 0; i < bad.length; i++) {
            Edge.refuses("BAD " + i, Edge::full, bad[i], -2, 0);
        }
        Edge.Act[] no = {x -> x.rows(0, 0, x.of(0, 4)), x -> x.enters(3), x -> x.odds(3, 0, 0, 0), x -> x.mean(3, 0, 0)};
        for (int i = 0; i < no.length; i++) {
            Edge.refuses("NO " + i, () -> {
                GondolaTold x = Edge.full();
                x.enters(3);
                for (int p = 1; p < 8; p++) {
                    x.canal(0, p, 0);
                }
                return x;
            }, no[i], -3, 1);
        }
        Edge.Act[] none = {x -> x.undo(), x -> x.from(0), x -> x.from(1)};
        for (int i = 0; i < none.length; i++) {
            Edge.refuses("NO of nothing " + i, GondolaTold::new, none[i], -3, 1);
        }
        Edge.Act[] full = {x -> x.rower(0, 0), x -> x.guest(0, 1), x -> x.type(0), x -> x.seen(0, 0, 0, 0),
            x -> x.note(0, 1, 0, 0, 0, 0), x -> x.mark(0, 0, 0, 0, 0)};
        for (int i = 0; i < full.length; i++) {
            Edge.refuses("FULL " + i, Edge::full, full[i], -4, 2);
        }
    }

    /** NONE, -5, WHERE's -3 and -4 and a FAULT are answers, no refusals. */
    private static void otherAnswersDoNotCount() {
        Edge.says(0, "each answer told so below");
        String text = "water 6;canal 0 7 1;canal 1 2 1;rower 0 5;guest 0 5;guest 0 5;guest 0 9;row 0 0 7;canal 0 7 0;";
        Edge.Make make = () -> Edge.water(text);
        Edge.leaves("far(0, 7)", make, x -> x.far(0, 7), -1);
        Edge.leaves("would(0, 0, 0, 0)", make, x -> x.would(0, 0, 0, 0), -1);
        Edge.leaves("way(0, 0, 0)", make, x -> x.way(0, 0, 0), -1);
        Edge.leaves("gentle(0, 0)", make, x -> x.gentle(0, 0), -1);
        Edge.leaves("where(0, 0)", make, x -> x.where(0, 0), -3);
        Edge.leaves("where(1, 0)", make, x -> x.where(1, 0), -4);
        Edge.leaves("share(0)", make, x -> x.share(0), -5);
        Edge.leaves("share(-3)", make, x -> x.share(-3), -5);
        Edge.leaves("lamp(0, 0, 9)", make, x -> x.lamp(0, 0, 9), -5);
        Edge.leaves("read()", () -> {
            GondolaTold x = make.make();
            x.type('x');
            return x;
        }, x -> x.read(), -10 - text.length());
        GondolaTold x = Edge.water("water 1;rower 0 1;guest 0 1;");
        x.seen(0, 0, 0, 99);
        x.note(0, 1, 0, 0, 0, 60);
        x.mark(0, 1, 0, 0, 99);
        Edge.due("tell(0)", x.tell(0), -1);
        Edge.due("look(0)", x.look(0), -1);
        Edge.due("ask(0)", x.ask(0), -1);
        Edge.due("no refusal", Edge.refused(x), 0);
    }

    private static void theFirstReasonCounts() {
        Edge.says(0, "Refused, changing nothing but STATUS, the first of: BAD -2 a number is not as told; NO -3 as told; FULL -4");
        Edge.due("BAD", GondolaTold.BAD, -2);
        Edge.due("NO", GondolaTold.NO, -3);
        Edge.due("FULL", GondolaTold.FULL, -4);
        Edge.due("NONE", GondolaTold.NONE, -1);
        Edge.refuses("BAD ahead of NO", Edge::full, x -> x.rows(0, 3, x.of(0, 4)), -2, 0);
        Edge.refuses("BAD ahead of NO", Edge::rich, x -> x.odds(3, 0, 0, 0), -2, 0);
        Edge.refuses("BAD ahead of NO", GondolaTold::new, x -> x.from(2), -2, 0);
        Edge.refuses("BAD ahead of FULL", Edge::full, x -> x.rower(0, 10), -2, 0);
        Edge.refuses("BAD ahead of FULL", Edge::full, x -> x.guest(0, 41), -2, 0);
        Edge.refuses("BAD ahead of FULL", Edge::full, x -> x.type(-1), -2, 0);
        Edge.refuses("BAD ahead of FULL", Edge::full, x -> x.seen(0, 0, 0, -1), -2, 0);
        Edge.refuses("BAD ahead of FULL", Edge::full, x -> x.note(0, 0, 0, 0, 0, 0), -2, 0);
        Edge.refuses("BAD ahead of FULL", Edge::full, x -> x.mark(0, -1, 0, 0, 0), -2, 0);
    }

    private static void otherAnswersToldCountAsThese() {
        Edge.says(0, "(where others are told they count as these).");
        Edge.refuses("way: -10", Edge::rich, x -> x.way(3, 0, 0), -10, 0);
        Edge.refuses("where: -10", Edge::rich, x -> x.where(3, 0), -10, 0);
        Edge.refuses("share: -10", Edge::rich, x -> x.share(3), -10, 0);
        Edge.refuses("lamp: -10", Edge::rich, x -> x.lamp(3, 0, 0), -10, 0);
        Edge.refuses("status: -1", Edge::rich, x -> x.status(3), -1, 0);
    }

    /** Each argument of each call by the least and the most that an int can be. */
    private static void noCallEverThrows() {
        Edge.says(0, "BAD -2 a number is not as told;");
        int[] ends = {Edge.MIN, Edge.MIN + 1, -11, 1 << 30, Edge.MAX - 1, Edge.MAX};
        for (int e : ends) {
            GondolaTold x = Edge.full();
            long got = x.water(e) + x.dark(e, 0) + x.dark(0, e) + x.canal(e, 0, 1) + x.canal(0, e, 1) + x.canal(0, 1, e)
                    + x.rower(e, 1) + x.rower(1, e) + x.guest(e, 1) + x.guest(1, e) + x.type(e) + x.rows(e, 0, 0)
                    + x.rows(0, e, 0) + x.rows(0, 0, e) + x.enters(e) + x.of(e, 0) + x.of(0, e) + x.who(e, 0) + x.who(0, e)
                    + x.about(e, 0) + x.about(0, e) + x.strokes(e, 0) + x.strokes(0, e) + x.far(e, 0) + x.far(0, e)
                    + x.would(e, 0, 0, 0) + x.would(0, e, 0, 0) + x.would(0, 0, e, 0) + x.would(0, 0, 0, e)
                    + x.gentle(e, 0) + x.gentle(0, e) + x.seen(e, 0, 0, 0) + x.seen(0, e, 0, 0) + x.seen(0, 0, e, 0)
                    + x.seen(0, 0, 0, e) + x.tongues(e) + x.tell(e) + x.forget(e) + x.is(e) + x.look(e) + x.kinds(e)
                    + x.ask(e) + x.nights(e, 0) + x.nights(0, e) + x.part(e) + x.image(e) + x.from(e) + x.count(e);
            Edge.due("48 calls are BAD by " + e, got, -96);
            long far = x.way(e, 0, 0) + x.way(0, e, 0) + x.where(e, 0) + x.where(0, e) + x.share(e) + x.lamp(e, 0, 0)
                    + x.lamp(0, e, 0);
            Edge.due("7 calls are BAD by " + e, far, -70);
        }
    }

    private static void statusAnswers() {
        Edge.says(40, "STATUS: BAD (0), NO (1), FULL (2).");
        GondolaTold x = new GondolaTold();
        for (int what = 0; what < 3; what++) {
            Edge.due("status(" + what + ") at first", x.status(what), 0);
        }
        x.dark(8, 0);
        int[] want = {1, 0, 0};
        for (int what = 0; what < 3; what++) {
            Edge.due("status(" + what + ")", x.status(what), want[what]);
        }
        x.undo();
        x.undo();
        want[1] = 2;
        for (int what = 0; what < 3; what++) {
            Edge.due("status(" + what + ")", x.status(what), want[what]);
        }
        for (int i = 0; i < 6; i++) {
            x.rower(0, 0);
        }
        want[2] = 3;
        for (int what = 0; what < 3; what++) {
            Edge.due("status(" + what + ")", x.status(what), want[what]);
        }
    }

    private static void statusOfAnotherWhat() {
        Edge.says(40, "-1: another what (counts as BAD).");
        Edge.range("status(value)", Edge::rich, (x, v) -> x.status(v), 0, 2, -1);
    }

    /** As many as there can be calls. */
    private static void statusOfMany() {
        Edge.says(40, "STATUS");
        GondolaTold x = new GondolaTold();
        for (int i = 0; i < 500; i++) {
            x.undo();
        }
        Edge.due("status(1)", x.status(1), 500);
    }

    // ---- count

    private static void countTells() {
        Edge.says(41, "How many: 0 CANALS, 1 ROWERS, 2 GUESTS, 3 TOLD (bits), 4 KNOWS of all together, 5 HURT of all together,"
                + " 6 SEEN, 7 NOTES, 8 MARKS, 9 that may be undone, 10 bytes of THE TEXT.");
        GondolaTold x = new GondolaTold();
        x.water(2);
        x.canal(0, 1, 1);
        x.canal(1, 7, 1);
        x.canal(2, 3, 9);
        x.rower(0, 5);
        x.rower(1, 1);
        x.guest(1, 5);
        x.guest(0, 40);
        x.guest(0, 10);
        x.rows(0, 0, 1);
        x.rows(2, 0, 1);
        x.rows(2, 0, 7);
        x.rows(1, 0, 1);
        x.seen(0, 1, 1, 1);
        for (int i = 0; i < 2; i++) {
            x.note(0, 1, 1, 1, 1, 1);
        }
        for (int i = 0; i < 3; i++) {
            x.mark(0, 1, 1, 1, 1);
        }
        Edge.type(x, "seven..");
        int[] want = {3, 2, 3, 1 + 4, 20, 25, 1, 2, 3, 4, 7};
        for (int what = 0; what <= 10; what++) {
            Edge.due("count(" + what + ")", x.count(what), want[what]);
        }
    }

    private static void countOfNone() {
        Edge.says(41, "How many:");
        GondolaTold x = new GondolaTold();
        for (int what = 0; what <= 10; what++) {
            Edge.due("count(" + what + ")", x.count(what), 0);
        }
    }

    private static void countOfAll() {
        Edge.says(41, "10 bytes of THE TEXT.");
        GondolaTold x = Edge.full();
        int[] want = {28, 3, 4, -1, -1, -1, 5, 6, 6, 8, 150};
        for (int what = 0; what <= 10; what++) {
            if (want[what] >= 0) {
                Edge.due("count(" + what + ")", x.count(what), want[what]);
            }
        }
        Edge.due("KNOWS", x.count(4), x.of(0, 2) + x.of(1, 2) + x.of(2, 2) + x.of(3, 2));
        Edge.due("HURT", x.count(5), x.of(0, 3) + x.of(1, 3) + x.of(2, 3) + x.of(3, 3));
        GondolaTold told = Edge.water("water 9;canal 0 1 1;rower 1 9;guest 0 1;guest 0 2;guest 0 12;guest 0 13;");
        int[] bits = {1, 3, 7, 7, 15};
        for (int i = 0; i < 5; i++) {
            told.rows(Math.min(i, 3), 0, i < 4 ? 1 : 0);
            Edge.due("TOLD", told.count(3), bits[i]);
        }
    }

    private static void countIsBad() {
        Edge.says(41, "BAD.");
        Edge.range("count(value)", Edge::rich, (x, v) -> x.count(v), 0, 10, -2);
    }

    // ---- digest

    private static long fold(long start, long... values) {
        long h = start;
        for (long v : values) {
            h = 31 * h + v;
        }
        return h;
    }

    /** From what the other calls tell; the rows of SEEN, NOTES and MARKS are given. */
    private static long told(GondolaTold x, long... rows) {
        long h = 1847;
        for (int what = 0; what <= 10; what++) {
            h = fold(h, x.count(what));
        }
        for (int p = 0; p < 8; p++) {
            h = fold(h, x.about(p, 0));
        }
        for (int a = 0; a <= 6; a++) {
            for (int b = a + 1; b <= 7; b++) {
                h = fold(h, x.strokes(a, b));
            }
        }
        for (int r = 0; r < x.count(1); r++) {
            h = fold(h, x.who(r, 0), x.who(r, 1));
        }
        for (int g = 0; g < x.count(2); g++) {
            for (int what = 0; what <= 5; what++) {
                h = fold(h, x.of(g, what));
            }
        }
        h = fold(h, rows);
        return fold(h, x.part(0), x.part(1));
    }

    private static void digestOfANewOne() {
        Edge.says(42, "h = 1847; then h = 31 h + v for each v: count(0) to count(10);");
        GondolaTold x = new GondolaTold();
        Edge.due("digest()", x.digest(), told(x));
        Edge.due("no call is counted for it", Edge.refused(x), 0);
    }

    private static void digestOfPlaces() {
        Edge.says(42, "of PLACES 0 to 7 how DARK; strokes(a, b) of a 0 to 6, b from a and 1 on to 7;");
        GondolaTold x = Edge.allCanals();
        Edge.due("digest()", x.digest(), told(x));
        GondolaTold y = new GondolaTold();
        y.canal(6, 7, 9);
        y.dark(7, 9);
        Edge.due("digest()", y.digest(), told(y));
    }

    private static void digestOfThoseThere() {
        Edge.says(42, "of ROWERS KIND, TONGUE; of GUESTS what of() tells for 0 to 5;");
        for (int rowers = 0; rowers <= 3; rowers++) {
            GondolaTold x = Edge.allCanals();
            for (int i = 0; i < rowers; i++) {
                x.rower(i, 9 - i);
                x.guest(5 - i, 40 - i);
            }
            if (rowers == 3) {
                x.guest(1, 1);
                x.rows(0, 2, 5);
                x.rows(3, 0, 7);
            }
            Edge.due("digest()", x.digest(), told(x));
        }
    }

    private static void digestOfRows() {
        Edge.says(42, "of SEEN r, d, s, m; of NOTES g, h, k, m, d, x; of MARKS r, t, d, s, m; THE FRACTION.");
        GondolaTold x = Edge.water("water 6;canal 0 7 1;rower 0 1;rower 0 5;rower 0 3;guest 0 20;guest 0 2;guest 0 3;guest 0 4;");
        x.seen(2, 9, 8, 7);
        x.note(3, 40, 5, 4, 3, 60);
        x.mark(1, 9, 8, 99, 6);
        x.odds(0, 1, 5, 7);
        Edge.due("one of each", x.digest(), told(x, 2, 9, 8, 7, 3, 40, 5, 4, 3, 60, 1, 9, 8, 99, 6));
        Edge.due("the fraction", x.part(0) * 100 + x.part(1), 310);
        x.forget(1);
        Edge.due("two of three", x.digest(), told(x, 2, 9, 8, 7, 1, 9, 8, 99, 6));
    }

    private static void digestOfFullRows() {
        Edge.says(42, "of SEEN r, d, s, m; of NOTES g, h, k, m, d, x; of MARKS r, t, d, s, m");
        GondolaTold x = Edge.full();
        long[] rows = new long[5 * 4 + 6 * 6 + 6 * 5];
        int at = 0;
        for (int i = 0; i < 5; i++) {
            for (int v : new int[] {i % 3, i, 13, 5}) {
                rows[at++] = v;
            }
        }
        for (int i = 0; i < 6; i++) {
            for (int v : new int[] {i % 4, 16, 4, 5, i, 8}) {
                rows[at++] = v;
            }
        }
        for (int i = 0; i < 6; i++) {
            for (int v : new int[] {i % 3, 4, i, 12, 6}) {
                rows[at++] = v;
            }
        }
        Edge.due("digest()", x.digest(), told(x, rows));
        Edge.due("as often as one likes", x.digest(), told(x, rows));
    }
}
