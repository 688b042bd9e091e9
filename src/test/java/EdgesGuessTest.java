/** SEEN, NOTES, MARKS, what fits them, what to try next, and promises 23 to 32: sentence by sentence. */
public final class EdgesGuessTest {
    public static void main(String[] args) throws Exception {
        Edge.all(EdgesGuessTest.class);
    }

    private static GondolaTold rowerOf(int kind, int tongue) {
        GondolaTold x = new GondolaTold();
        x.rower(kind, tongue);
        return x;
    }

    private static GondolaTold guestOf(int kind, int hope) {
        GondolaTold x = new GondolaTold();
        x.guest(kind, hope);
        return x;
    }

    // ---- SEEN

    private static void seenAreFive() {
        Edge.says(0, "SEEN 0 .. 4, as they come:");
        GondolaTold x = rowerOf(0, 5);
        Edge.due("none", x.count(6), 0);
        for (int n = 1; n <= 5; n++) {
            Edge.due("seen(0, 1, 1, 5)", x.seen(0, 1, 1, 5), n);
        }
        Edge.due("a 6th", x.seen(0, 1, 1, 5), -4);
        Edge.due("count(6)", x.count(6), 5);
    }

    /** The digest tells them in the order in which they came. */
    private static void seenComeInOrder() {
        Edge.says(0, "as they come:");
        GondolaTold x = rowerOf(0, 5);
        GondolaTold y = rowerOf(0, 5);
        x.seen(0, 1, 2, 3);
        x.seen(0, 4, 5, 6);
        y.seen(0, 4, 5, 6);
        y.seen(0, 1, 2, 3);
        Edge.due("another order is another digest", x.digest() == y.digest() ? 1 : 0, 0);
        y.forget(0);
        y.seen(0, 1, 2, 3);
        y.seen(0, 4, 5, 6);
        Edge.due("the same order is the same", y.digest(), x.digest());
    }

    private static void seenOfARower() {
        Edge.says(0, "a ROWER told m (0 .. 99) at a PLACE d DARK, s STROKES (0 .. 99) being gone.");
        Edge.range("seen(value, 1, 1, 1)", Edge::rich, (x, v) -> x.seen(v, 1, 1, 1), 0, 1, -2);
        Edge.range("seen(0, value, 1, 1)", Edge::rich, (x, v) -> x.seen(0, v, 1, 1), 0, 9, -2);
        Edge.range("seen(0, 1, value, 1)", Edge::rich, (x, v) -> x.seen(0, 1, v, 1), 0, 99, -2);
        Edge.range("seen(0, 1, 1, value)", Edge::rich, (x, v) -> x.seen(0, 1, 1, v), 0, 99, -2);
    }

    private static void seenAnswers() {
        Edge.says(23, "SEEN: how many there are.");
        GondolaTold x = Edge.water("water 1;rower 0 1;rower 0 2;rower 0 3;");
        Edge.due("of one", x.seen(0, 0, 0, 0), 1);
        Edge.due("of another", x.seen(2, 9, 99, 99), 2);
        x.forget(0);
        Edge.due("behind forget", x.seen(1, 0, 0, 0), 1);
    }

    private static void seenIsBad() {
        Edge.says(23, "BAD;");
        Edge.refuses("seen(-1, 0, 0, 0)", Edge::rich, x -> x.seen(-1, 0, 0, 0), -2, 0);
        Edge.refuses("seen(2, 0, 0, 0)", Edge::rich, x -> x.seen(2, 0, 0, 0), -2, 0);
        Edge.refuses("no rower", GondolaTold::new, x -> x.seen(0, 0, 0, 0), -2, 0);
    }

    private static void seenIsFull() {
        Edge.says(23, "FULL: 5.");
        Edge.refuses("seen(0, 0, 0, 0)", Edge::full, x -> x.seen(0, 0, 0, 0), -4, 2);
        Edge.refuses("BAD comes ahead of FULL: r", Edge::full, x -> x.seen(3, 0, 0, 0), -2, 0);
        Edge.refuses("BAD comes ahead of FULL: d", Edge::full, x -> x.seen(0, 10, 0, 0), -2, 0);
        Edge.refuses("BAD comes ahead of FULL: s", Edge::full, x -> x.seen(0, 0, 100, 0), -2, 0);
        Edge.refuses("BAD comes ahead of FULL: m", Edge::full, x -> x.seen(0, 0, 0, 100), -2, 0);
    }

    // ---- TONGUES

    private static void tonguesByWhichAllAreSo() {
        Edge.says(0, "TONGUES of one (bits 0 to 9) by which, the KIND as it is, all SEEN of one are so.");
        GondolaTold x = Edge.water("water 1;rower 2 5;rower 0 5;");
        Edge.due("nothing seen: all", x.tongues(0), 1023);
        x.seen(1, 0, 0, 0);
        Edge.due("tongue 0 is bit 0", x.tongues(1), 1);
        Edge.due("of another one", x.tongues(0), 1023);
        x.forget(0);
        x.seen(1, 0, 0, 9);
        Edge.due("tongue 9 is bit 9", x.tongues(1), 512);
        x.forget(0);
        x.seen(1, 0, 0, 10);
        Edge.due("no tongue is so long", x.tongues(1), 0);
        x.seen(0, 3, 0, 0);
        Edge.due("SHY in the light: all", x.tongues(0), 1023);
        x.seen(0, 4, 0, 3);
        Edge.due("SHY in the dark", x.tongues(0), 8);
        x.seen(0, 3, 0, 1);
        Edge.due("all of them must be so", x.tongues(0), 0);
    }

    private static void tonguesOfTheKindAsItIs() {
        Edge.says(0, "the KIND as it is");
        int[] inTheDark = {0, 128, 0, 512, 512, 128};
        for (int kind = 0; kind < 6; kind++) {
            GondolaTold x = rowerOf(kind, 0);
            x.seen(0, 9, 10, 10);
            Edge.due("kind " + kind + " told 10", x.tongues(0), inTheDark[kind]);
        }
    }

    private static void tonguesAnswers() {
        Edge.says(24, "TONGUES, as bits.");
        GondolaTold x = rowerOf(1, 9);
        for (int m = 0; m <= 13; m++) {
            x.seen(0, 0, 0, m);
            Edge.due("BLUNT told " + m, x.tongues(0), m < 3 || m > 12 ? 0 : 1 << m - 3);
            x.forget(0);
        }
        Edge.due("no refusal", Edge.refused(x), 0);
    }

    private static void tonguesIsBad() {
        Edge.says(24, "BAD.");
        Edge.range("tongues(value)", Edge::rich, (x, v) -> x.tongues(v), 0, 1, -2);
        Edge.refuses("no rower", GondolaTold::new, x -> x.tongues(0), -2, 0);
    }

    // ---- TELL

    private static void tellIsWhereTheMostAreFewest() {
        Edge.says(0, "TELL for a ROWER: 100 d and s (d 0 .. 9, s 0 .. 30) by which the most of these TONGUES by which as"
                + " much is told are fewest;");
        int[] want = {0, 0, 400, 400, 410, 0};
        for (int kind = 0; kind < 6; kind++) {
            GondolaTold x = rowerOf(kind, 9);
            Edge.due("all tongues of kind " + kind, x.tell(0), want[kind]);
        }
        GondolaTold x = rowerOf(4, 9);
        x.seen(0, 9, 9, 0);
        Edge.due("LATE, seen early: all are left", x.tell(0), 410);
        x.seen(0, 3, 30, 5);
        Edge.due("LATE, seen in the light: all are left", x.tell(0), 410);
    }

    private static void tellIsTheLeast() {
        Edge.says(0, "of like ones the least; none: no TONGUE.");
        GondolaTold x = rowerOf(4, 9);
        x.seen(0, 4, 10, 5);
        Edge.due("one tongue is left: any will do", x.tell(0), 0);
        x.seen(0, 4, 10, 6);
        Edge.due("no tongue is left", x.tell(0), -1);
        GondolaTold y = rowerOf(2, 9);
        Edge.due("400, not 401 or 500", y.tell(0), 400);
    }

    private static void tellAnswers() {
        Edge.says(25, "TELL. NONE.");
        GondolaTold x = rowerOf(0, 9);
        Edge.due("tell(0)", x.tell(0), 0);
        x.seen(0, 0, 0, 10);
        Edge.due("tell(0)", x.tell(0), GondolaTold.NONE);
        Edge.due("no refusal", Edge.refused(x), 0);
    }

    private static void tellIsBad() {
        Edge.says(25, "BAD.");
        Edge.range("tell(value)", Edge::rich, (x, v) -> x.tell(v), 0, 1, -2);
    }

    // ---- NOTES

    private static void notesAreSix() {
        Edge.says(0, "NOTES 0 .. 5, as they come:");
        GondolaTold x = guestOf(0, 5);
        Edge.due("none", x.count(7), 0);
        for (int n = 1; n <= 6; n++) {
            Edge.due("note(0, 9, 1, 1, 1, 1)", x.note(0, 9, 1, 1, 1, 1), n);
        }
        Edge.due("a 7th", x.note(0, 9, 1, 1, 1, 1), -4);
        Edge.due("count(7)", x.count(7), 6);
    }

    private static void noteOfAGuest() {
        Edge.says(0, "a GUEST, were the HOPE h (1 .. 40), KNOWING k (0 .. h), was HURT x (0 .. 60) by m (0 .. 20) at a PLACE"
                + " d DARK.");
        Edge.range("note(value, 9, 1, 1, 1, 1)", Edge::rich, (x, v) -> x.note(v, 9, 1, 1, 1, 1), 0, 2, -2);
        Edge.range("note(0, value, 1, 1, 1, 1)", Edge::rich, (x, v) -> x.note(0, v, 1, 1, 1, 1), 1, 40, -2);
        Edge.range("note(0, value, 0, 1, 1, 1)", Edge::rich, (x, v) -> x.note(0, v, 0, 1, 1, 1), 1, 40, -2);
        for (int h : new int[] {1, 9, 40}) {
            Edge.range("note(0, " + h + ", value, 1, 1, 1)", Edge::rich, (x, v) -> x.note(0, h, v, 1, 1, 1), 0, h, -2);
        }
        Edge.range("note(0, 9, 1, value, 1, 1)", Edge::rich, (x, v) -> x.note(0, 9, 1, v, 1, 1), 0, 20, -2);
        Edge.range("note(0, 9, 1, 1, value, 1)", Edge::rich, (x, v) -> x.note(0, 9, 1, 1, v, 1), 0, 9, -2);
        Edge.range("note(0, 9, 1, 1, 1, value)", Edge::rich, (x, v) -> x.note(0, 9, 1, 1, 1, v), 0, 60, -2);
    }

    /** What is noted need not be as the guest is. */
    private static void noteWereTheHope() {
        Edge.says(0, "were the HOPE h (1 .. 40), KNOWING k (0 .. h)");
        GondolaTold x = guestOf(0, 1);
        Edge.due("note(0, 40, 0, 1, 0, 11)", x.note(0, 40, 0, 1, 0, 11), 1);
        Edge.due("SOFT", x.is(0), 4);
        x.forget(1);
        Edge.due("note(0, 40, 40, 1, 0, 1)", x.note(0, 40, 40, 1, 0, 1), 1);
        Edge.due("PLAIN, SOFT, WISE", x.is(0), 37);
    }

    private static void noteAnswers() {
        Edge.says(26, "A NOTE: how many there are.");
        GondolaTold x = Edge.water("water 1;guest 0 1;guest 0 2;");
        Edge.due("of one", x.note(0, 1, 0, 0, 0, 0), 1);
        Edge.due("of another", x.note(1, 40, 40, 20, 9, 60), 2);
        x.forget(1);
        Edge.due("behind forget", x.note(1, 1, 1, 0, 0, 0), 1);
    }

    private static void noteIsBad() {
        Edge.says(26, "BAD;");
        Edge.refuses("note(3, ..)", Edge::rich, x -> x.note(3, 9, 1, 1, 1, 1), -2, 0);
        Edge.refuses("KNOWING more than the HOPE", Edge::rich, x -> x.note(0, 9, 10, 1, 1, 1), -2, 0);
        Edge.refuses("no guest", GondolaTold::new, x -> x.note(0, 9, 1, 1, 1, 1), -2, 0);
    }

    private static void noteIsFull() {
        Edge.says(26, "FULL: 6.");
        Edge.refuses("note(0, 9, 1, 1, 1, 1)", Edge::full, x -> x.note(0, 9, 1, 1, 1, 1), -4, 2);
        int[][] bad = {{4, 9, 1, 1, 1, 1}, {0, 41, 1, 1, 1, 1}, {0, 9, 10, 1, 1, 1}, {0, 9, 1, 21, 1, 1}, {0, 9, 1, 1, 10, 1},
            {0, 9, 1, 1, 1, 61}};
        for (int[] b : bad) {
            Edge.refuses("BAD comes ahead of FULL", Edge::full, x -> x.note(b[0], b[1], b[2], b[3], b[4], b[5]), -2, 0);
        }
    }

    // ---- IS

    private static void isByWhichAllAreSo() {
        Edge.says(0, "IS: KINDS (bits) of GUESTS by which all NOTES of one are so.");
        GondolaTold x = Edge.water("water 1;guest 0 1;guest 0 2;");
        Edge.due("no notes: all", x.is(0), 63);
        x.note(0, 16, 4, 5, 3, 8);
        Edge.due("SOFT, WISE", x.is(0), 36);
        Edge.due("of another one", x.is(1), 63);
        x.note(0, 16, 4, 9, 3, 12);
        Edge.due("SOFT", x.is(0), 4);
        x.note(0, 16, 4, 9, 3, 9);
        Edge.due("all of them must be so", x.is(0), 0);
    }

    private static void isAnswers() {
        Edge.says(29, "IS, as bits.");
        int[] hurt = {10, 20, 15, 23, 23, 9};
        int[] want = {1, 2, 4, 24, 24, 32};
        for (int kind = 0; kind < 6; kind++) {
            GondolaTold x = guestOf(0, 1);
            x.note(0, 20, 0, 10, 4, hurt[kind]);
            Edge.due("kind " + kind, x.is(0), want[kind]);
        }
        GondolaTold x = guestOf(0, 1);
        x.note(0, 20, 0, 0, 0, 0);
        Edge.due("told nothing: all", x.is(0), 63);
        x.note(0, 20, 0, 0, 0, 1);
        Edge.due("none", x.is(0), 0);
        Edge.due("no refusal", Edge.refused(x), 0);
    }

    private static void isIsBad() {
        Edge.says(29, "BAD.");
        Edge.range("is(value)", Edge::rich, (x, v) -> x.is(v), 0, 2, -2);
        Edge.refuses("no guest", GondolaTold::new, x -> x.is(0), -2, 0);
    }

    // ---- LOOK

    /** By m 1 in the light they are hurt 1, 2, 11, 5, 0 and 9, if 40 are left. */
    private static void lookIsWhereTheMostAreFewest() {
        Edge.says(0, "LOOK: 100 d and m (d 0 .. 9, m 0 .. 20), HOPE, KNOWS as they are, by which the most of these KINDS that"
                + " are HURT as much are fewest;");
        Edge.due("all six apart", guestOf(0, 40).look(0), 1);
        GondolaTold plainOrWise = guestOf(0, 3);
        plainOrWise.note(0, 4, 0, 9, 0, 9);
        Edge.due("PLAIN, WISE", plainOrWise.is(0), 33);
        Edge.due("apart at 10 first", plainOrWise.look(0), 10);
        GondolaTold softOrWise = guestOf(0, 4);
        softOrWise.note(0, 4, 0, 1, 5, 2);
        Edge.due("SOFT, WISE", softOrWise.is(0), 36);
        Edge.due("apart at 9 first", softOrWise.look(0), 9);
    }

    private static void lookHopeAndKnowsAsTheyAre() {
        Edge.says(0, "HOPE, KNOWS as they are");
        int[][] left = {{3, 10}, {4, 9}, {7, 9}, {8, 8}, {12, 7}, {31, 3}, {32, 2}, {36, 1}, {40, 1}};
        for (int[] l : left) {
            GondolaTold x = guestOf(0, l[0]);
            x.note(0, 4, 0, 1, 5, 2);
            Edge.due("SOFT or WISE, HOPE " + l[0], x.look(0), l[1]);
        }
        GondolaTold x = Edge.water("water 6;canal 0 1 1;rower 0 4;guest 0 8;");
        x.note(0, 4, 0, 1, 5, 2);
        Edge.due("8 are left", x.look(0), 8);
        x.rows(0, 0, 1);
        Edge.due("4 are left", x.look(0), 9);
        x.rows(0, 0, 0);
        Edge.due("none are left, m is no less for it", x.look(0), 10);
    }

    private static void lookIsTheLeast() {
        Edge.says(0, "of like ones the least; none: no KIND. MARKS");
        GondolaTold x = guestOf(0, 40);
        x.note(0, 16, 16, 3, 4, 9);
        Edge.due("VAIN or DEAF: apart at 1 and 2", x.look(0), 1);
        x.note(0, 16, 16, 2, 4, 0);
        Edge.due("one kind: any will do", x.look(0), 0);
        x.note(0, 16, 16, 2, 4, 1);
        Edge.due("no kind", x.look(0), -1);
    }

    private static void lookAnswers() {
        Edge.says(30, "LOOK. NONE.");
        GondolaTold x = guestOf(0, 40);
        Edge.due("look(0)", x.look(0), 1);
        x.note(0, 1, 0, 0, 0, 1);
        Edge.due("look(0)", x.look(0), GondolaTold.NONE);
        Edge.due("no refusal", Edge.refused(x), 0);
    }

    private static void lookIsBad() {
        Edge.says(30, "BAD.");
        Edge.range("look(value)", Edge::rich, (x, v) -> x.look(v), 0, 2, -2);
    }

    // ---- MARKS

    private static void marksAreSix() {
        Edge.says(0, "MARKS 0 .. 5, as they come:");
        GondolaTold x = rowerOf(0, 5);
        Edge.due("none", x.count(8), 0);
        for (int n = 1; n <= 6; n++) {
            Edge.due("mark(0, 1, 1, 1, 1)", x.mark(0, 1, 1, 1, 1), n);
        }
        Edge.due("a 7th", x.mark(0, 1, 1, 1, 1), -4);
        Edge.due("count(8)", x.count(8), 6);
    }

    private static void markOfARower() {
        Edge.says(0, "a ROWER, were the TONGUE g, told m at a PLACE d DARK, s STROKES (0 .. 99) being gone.");
        Edge.range("mark(value, 1, 1, 1, 1)", Edge::rich, (x, v) -> x.mark(v, 1, 1, 1, 1), 0, 1, -2);
        Edge.range("mark(0, value, 1, 1, 1)", Edge::rich, (x, v) -> x.mark(0, v, 1, 1, 1), 0, 9, -2);
        Edge.range("mark(0, 1, value, 1, 1)", Edge::rich, (x, v) -> x.mark(0, 1, v, 1, 1), 0, 9, -2);
        Edge.range("mark(0, 1, 1, value, 1)", Edge::rich, (x, v) -> x.mark(0, 1, 1, v, 1), 0, 99, -2);
        Edge.range("mark(0, 1, 1, 1, value)", Edge::rich, (x, v) -> x.mark(0, 1, 1, 1, v), 0, 99, -2);
    }

    /** What is marked need not be as the rower is. */
    private static void markWereTheTongue() {
        Edge.says(0, "were the TONGUE g, told m");
        GondolaTold x = rowerOf(0, 0);
        x.mark(0, 9, 0, 0, 9);
        Edge.due("PLAIN", x.kinds(0), 1);
        x.forget(2);
        x.mark(0, 0, 0, 0, 0);
        Edge.due("PLAIN, SHY, WINDING, LATE", x.kinds(0), 29);
    }

    private static void markAnswers() {
        Edge.says(27, "A MARK: how many there are.");
        GondolaTold x = Edge.water("water 1;rower 0 1;rower 0 2;");
        Edge.due("of one", x.mark(0, 0, 0, 0, 0), 1);
        Edge.due("of another", x.mark(1, 9, 9, 99, 25), 2);
        x.forget(2);
        Edge.due("behind forget", x.mark(1, 0, 0, 0, 0), 1);
    }

    private static void markIsBad() {
        Edge.says(27, "BAD;");
        Edge.refuses("mark(2, ..)", Edge::rich, x -> x.mark(2, 1, 1, 1, 1), -2, 0);
        Edge.refuses("mark(0, 10, ..)", Edge::rich, x -> x.mark(0, 10, 1, 1, 1), -2, 0);
        Edge.refuses("no rower", GondolaTold::new, x -> x.mark(0, 1, 1, 1, 1), -2, 0);
    }

    private static void markIsFull() {
        Edge.says(27, "FULL: 6.");
        Edge.refuses("mark(0, 1, 1, 1, 1)", Edge::full, x -> x.mark(0, 1, 1, 1, 1), -4, 2);
        int[][] bad = {{3, 1, 1, 1, 1}, {0, 10, 1, 1, 1}, {0, 1, 10, 1, 1}, {0, 1, 1, 100, 1}, {0, 1, 1, 1, -1}};
        for (int[] b : bad) {
            Edge.refuses("BAD comes ahead of FULL", Edge::full, x -> x.mark(b[0], b[1], b[2], b[3], b[4]), -2, 0);
        }
    }

    // ---- promise 28

    private static void forgetOne() {
        Edge.says(28, "No SEEN ones (0), NOTES (1), MARKS (2): how many there were.");
        for (int what = 0; what < 3; what++) {
            GondolaTold x = Edge.full();
            int[] want = {5, 6, 6};
            Edge.due("forget(" + what + ")", x.forget(what), want[what]);
            want[what] = 0;
            for (int i = 0; i < 3; i++) {
                Edge.due("count(" + (6 + i) + ")", x.count(6 + i), want[i]);
            }
            Edge.due("none are left", x.forget(what), 0);
            Edge.due("what may be undone stays", x.count(9), 8);
        }
        GondolaTold x = Edge.full();
        x.forget(0);
        x.forget(1);
        x.forget(2);
        Edge.due("tongues(0)", x.tongues(0), 1023);
        Edge.due("is(0)", x.is(0), 63);
        Edge.due("kinds(0)", x.kinds(0), 63);
        Edge.due("there is room", x.seen(0, 1, 1, 1) + x.note(0, 9, 1, 1, 1, 1) + x.mark(0, 1, 1, 1, 1), 3);
    }

    private static void forgetIsBad() {
        Edge.says(28, "BAD.");
        Edge.range("forget(value)", Edge::full, (x, v) -> x.forget(v), 0, 2, -2);
    }

    // ---- WHAT

    private static void whatByWhichAllAreSo() {
        Edge.says(0, "WHAT: KINDS (bits) of ROWERS by which all MARKS of one are so.");
        GondolaTold x = Edge.water("water 1;rower 0 1;rower 0 2;");
        Edge.due("no marks: all", x.kinds(0), 63);
        x.mark(0, 4, 6, 12, 4);
        Edge.due("PLAIN, SHY", x.kinds(0), 5);
        Edge.due("of another one", x.kinds(1), 63);
        x.mark(0, 4, 3, 12, 0);
        Edge.due("SHY", x.kinds(0), 4);
        x.mark(0, 4, 3, 12, 4);
        Edge.due("all of them must be so", x.kinds(0), 0);
    }

    private static void kindsAnswers() {
        Edge.says(31, "WHAT, as bits.");
        int[][] marks = {{5, 3, 1, 5, 1}, {5, 3, 1, 8, 2}, {5, 3, 10, 0, 4}, {5, 4, 6, 6, 8}, {5, 4, 0, 0, 16}, {5, 3, 1, 6, 32},
            {0, 0, 18, 3, 58}, {5, 4, 10, 6, 24}};
        for (int[] m : marks) {
            GondolaTold x = rowerOf(0, 1);
            x.mark(0, m[0], m[1], m[2], m[3]);
            Edge.due("mark(0, " + m[0] + ", " + m[1] + ", " + m[2] + ", " + m[3] + ")", x.kinds(0), m[4]);
        }
        GondolaTold x = rowerOf(0, 1);
        x.mark(0, 1, 9, 99, 99);
        Edge.due("none", x.kinds(0), 0);
        Edge.due("no refusal", Edge.refused(x), 0);
    }

    private static void kindsIsBad() {
        Edge.says(31, "BAD.");
        Edge.range("kinds(value)", Edge::rich, (x, v) -> x.kinds(v), 0, 1, -2);
        Edge.refuses("no rower", GondolaTold::new, x -> x.kinds(0), -2, 0);
    }

    // ---- ASK

    private static void askIsWhereTheMostAreFewest() {
        Edge.says(0, "ASK: 100 d and s (d 0 .. 9, s 0 .. 30), TONGUE as it is, by which the most of these KINDS that tell as much"
                + " are fewest;");
        GondolaTold shyOnes = rowerOf(0, 5);
        shyOnes.mark(0, 1, 0, 0, 0);
        Edge.due("SHY, WINDING, LATE", shyOnes.kinds(0), 28);
        Edge.due("apart in the dark, by 6 to 9 strokes", shyOnes.ask(0), 406);
        GondolaTold four = rowerOf(0, 5);
        four.mark(0, 0, 0, 18, 3);
        Edge.due("BLUNT, WINDING, LATE, OFFHAND", four.kinds(0), 58);
        Edge.due("apart by an odd number of 6 to 9", four.ask(0), 7);
        Edge.due("all six, two and two alike", rowerOf(0, 0).ask(0), 10);
    }

    private static void askTongueAsItIs() {
        Edge.says(0, "TONGUE as it is");
        int[][] tongues = {{0, 10}, {1, 12}, {2, 10}, {9, 10}};
        for (int[] t : tongues) {
            GondolaTold x = rowerOf(5, t[0]);
            x.mark(0, 0, 0, 6, 0);
            Edge.due("PLAIN, SHY, LATE", x.kinds(0), 21);
            Edge.due("tongue " + t[0], x.ask(0), t[1]);
        }
    }

    private static void askIsTheLeast() {
        Edge.says(0, "are fewest; of like ones the least; none: no KIND. LAMP");
        GondolaTold x = rowerOf(0, 3);
        x.mark(0, 4, 6, 12, 7);
        Edge.due("BLUNT or OFFHAND: apart by any odd number", x.ask(0), 1);
        x.mark(0, 4, 6, 11, 5);
        Edge.due("one kind: any will do", x.ask(0), 0);
        x.mark(0, 4, 6, 11, 6);
        Edge.due("no kind", x.ask(0), -1);
    }

    private static void askAnswers() {
        Edge.says(32, "ASK. NONE.");
        GondolaTold x = rowerOf(0, 0);
        Edge.due("ask(0)", x.ask(0), 10);
        x.mark(0, 1, 0, 0, 99);
        Edge.due("ask(0)", x.ask(0), GondolaTold.NONE);
        Edge.due("no refusal", Edge.refused(x), 0);
    }

    private static void askIsBad() {
        Edge.says(32, "BAD.");
        Edge.range("ask(value)", Edge::rich, (x, v) -> x.ask(v), 0, 1, -2);
    }
}
