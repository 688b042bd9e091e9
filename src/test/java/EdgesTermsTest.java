/** Places, canals, rowers, guests, their kinds, and how one is rowed: sentence by sentence. */
public final class EdgesTermsTest {
    public static void main(String[] args) throws Exception {
        Edge.all(EdgesTermsTest.class);
    }

    // ---- what there is

    private static void placesAreDark() {
        Edge.says(0, "7, each so DARK (0 .. 9; 3 at first)");
        GondolaTold x = new GondolaTold();
        for (int p = 0; p < 8; p++) {
            Edge.due("about(" + p + ", 0) at first", x.about(p, 0), 3);
        }
        Edge.range("dark(value, 4)", Edge::rich, (y, v) -> y.dark(v, 4), 0, 7, -2);
        Edge.range("dark(4, value)", Edge::rich, (y, v) -> y.dark(4, v), 0, 9, -2);
        x.dark(0, 0);
        x.dark(7, 9);
        Edge.due("the least dark", x.about(0, 0), 0);
        Edge.due("the darkest", x.about(7, 0), 9);
    }

    private static void canalsAreBetweenUnlikeOnes() {
        Edge.says(0, "CANALS between two unlike ones, both ways");
        for (int p = 0; p < 8; p++) {
            int place = p;
            Edge.refuses("canal(" + p + ", " + p + ", 3)", Edge::rich, x -> x.canal(place, place, 3), -2, 0);
            Edge.refuses("canal(" + p + ", " + p + ", 0)", Edge::rich, x -> x.canal(place, place, 0), -2, 0);
        }
        GondolaTold x = new GondolaTold();
        x.canal(6, 2, 4);
        Edge.due("strokes(2, 6)", x.strokes(2, 6), 4);
        Edge.due("strokes(6, 2)", x.strokes(6, 2), 4);
        Edge.due("about(2, 1)", x.about(2, 1), 64);
        Edge.due("about(6, 1)", x.about(6, 1), 4);
    }

    private static void canalsHaveStrokes() {
        Edge.says(0, "of so many STROKES (1 .. 9; 0: none; none at first)");
        GondolaTold x = new GondolaTold();
        for (int a = 0; a < 8; a++) {
            for (int b = 0; b < 8; b++) {
                Edge.due("strokes(" + a + ", " + b + ") at first", x.strokes(a, b), 0);
            }
        }
        Edge.range("canal(1, 2, value)", Edge::rich, (y, v) -> y.canal(1, 2, v), 0, 9, -2);
        x.canal(1, 2, 1);
        Edge.due("one stroke is a canal", x.about(1, 1), 4);
        x.canal(1, 2, 9);
        Edge.due("nine strokes", x.strokes(1, 2), 9);
        x.canal(2, 1, 0);
        Edge.due("no strokes are none", x.about(1, 1) + x.about(2, 1) + x.strokes(1, 2) + x.strokes(2, 1), 0);
    }

    private static void allCanalsThereCanBe() {
        Edge.says(0, "CANALS between two unlike ones");
        GondolaTold x = Edge.allCanals();
        Edge.due("count(0)", x.count(0), 28);
        for (int p = 0; p < 8; p++) {
            Edge.due("about(" + p + ", 1)", x.about(p, 1), 255 - (1 << p));
        }
    }

    private static void oneGetsInAtPlaceZero() {
        Edge.says(0, "One gets in at PLACE 0; PLACE 7 is THE SALUTE.");
        GondolaTold x = Edge.allCanals();
        x.rower(0, 1);
        x.guest(0, 9);
        Edge.due("of(0, 4)", x.of(0, 4), 0);
        x.rows(0, 0, 6);
        Edge.due("place 6 is not the Salute", x.rows(0, 0, 7), 2);
        Edge.due("place 7 is", x.rows(0, 0, 6), -3);
        x.enters(0);
        Edge.due("of(0, 4)", x.of(0, 4), 0);
    }

    private static void rowersAreThree() {
        Edge.says(0, "ROWERS 0 .. 2, as they come");
        GondolaTold x = new GondolaTold();
        Edge.due("none at first", x.who(0, 0), -2);
        for (int r = 0; r < 3; r++) {
            Edge.due("rower " + r + " is not there yet", x.who(r, 0), -2);
            Edge.due("rower(" + r + ", " + (r + 5) + ")", x.rower(r, r + 5), r);
        }
        for (int r = 0; r < 3; r++) {
            Edge.due("who(" + r + ", 0)", x.who(r, 0), r);
            Edge.due("who(" + r + ", 1)", x.who(r, 1), r + 5);
        }
        Edge.due("a 4th", x.rower(3, 3), -4);
        Edge.due("rower 3 is none", x.who(3, 0), -2);
    }

    private static void rowersHaveAKindAndATongue() {
        Edge.says(0, "a KIND, a TONGUE (0 .. 9).");
        Edge.range("rower(value, 4)", Edge::rich, (x, v) -> x.rower(v, 4), 0, 5, -2);
        Edge.range("rower(4, value)", Edge::rich, (x, v) -> x.rower(4, v), 0, 9, -2);
        GondolaTold x = new GondolaTold();
        x.rower(0, 9);
        x.rower(5, 0);
        Edge.due("who(0, 0)", x.who(0, 0), 0);
        Edge.due("who(0, 1)", x.who(0, 1), 9);
        Edge.due("who(1, 0)", x.who(1, 0), 5);
        Edge.due("who(1, 1)", x.who(1, 1), 0);
    }

    private static void guestsAreFour() {
        Edge.says(0, "GUESTS 0 .. 3, as they come");
        GondolaTold x = new GondolaTold();
        for (int g = 0; g < 4; g++) {
            Edge.due("guest " + g + " is not there yet", x.of(g, 0), -2);
            Edge.due("guest(" + g + ", " + (g + 5) + ")", x.guest(g, g + 5), g);
        }
        for (int g = 0; g < 4; g++) {
            Edge.due("of(" + g + ", 0)", x.of(g, 0), g);
            Edge.due("of(" + g + ", 1)", x.of(g, 1), g + 5);
        }
        Edge.due("a 5th", x.guest(3, 3), -4);
        Edge.due("guest 4 is none", x.of(4, 0), -2);
    }

    private static void guestsHaveAKindAndHope() {
        Edge.says(0, "a KIND, HOPE (1 .. 40)");
        Edge.range("guest(value, 4)", Edge::rich, (x, v) -> x.guest(v, 4), 0, 5, -2);
        Edge.range("guest(4, value)", Edge::rich, (x, v) -> x.guest(4, v), 1, 40, -2);
        GondolaTold x = new GondolaTold();
        x.guest(0, 40);
        x.guest(5, 1);
        Edge.due("of(0, 0)", x.of(0, 0), 0);
        Edge.due("of(0, 1)", x.of(0, 1), 40);
        Edge.due("of(1, 0)", x.of(1, 0), 5);
        Edge.due("of(1, 1)", x.of(1, 1), 1);
    }

    private static void oneKnowsNoMoreThanHope() {
        Edge.says(0, "KNOWS (0 at first; HOPE at most: then one is TOLD)");
        GondolaTold x = Edge.water("water 6;canal 0 1 1;rower 0 1;rower 1 9;guest 0 3;guest 0 1;guest 0 40;");
        Edge.due("of(0, 2)", x.of(0, 2), 0);
        Edge.due("none is told", x.count(3), 0);
        x.rows(0, 0, 1);
        x.rows(0, 0, 0);
        Edge.due("one less than HOPE", x.of(0, 2), 2);
        Edge.due("one less is not told", x.count(3), 0);
        x.rows(0, 0, 1);
        Edge.due("HOPE", x.of(0, 2), 3);
        Edge.due("HOPE is told", x.count(3), 1);
        Edge.due("no more than HOPE", x.rows(0, 0, 0), 3);
        Edge.due("still told", x.count(3), 1);
        Edge.due("the least HOPE, at once", x.rows(1, 1, 1), 1);
        Edge.due("two are told", x.count(3), 3);
        for (int i = 1; i <= 5; i++) {
            x.rows(2, 1, i % 2);
        }
        Edge.due("the most HOPE", x.of(2, 2), 40);
        Edge.due("three are told", x.count(3), 7);
    }

    /** Nobody can be hurt as much as 999: it hurts most to be SOFT, of HOPE 40, and told 1 at a time. */
    private static void oneIsHurtMost() {
        Edge.says(0, "HURT (0 at first; 999 at most)");
        GondolaTold x = Edge.water("water 0;canal 0 1 1;rower 0 1;guest 2 40;guest 3 40;");
        Edge.due("of(0, 3)", x.of(0, 3), 0);
        int soft = 0;
        for (int i = 1; i <= 40; i++) {
            soft += 1 + (41 - i) / 4;
            x.rows(0, 0, i % 2);
            Edge.due("of(0, 3) behind " + i, x.of(0, 3), soft);
        }
        Edge.due("in all", x.of(0, 3), 230);
        x.rows(0, 0, 1);
        Edge.due("nothing more is told", x.of(0, 3), 230);
        for (int i = 1; i <= 41; i++) {
            x.rows(1, 0, i % 2);
        }
        Edge.due("VAIN in the light", x.of(1, 3), 200);
    }

    private static void oneIsAtPlaceZeroAtFirst() {
        Edge.says(0, "at a PLACE (0 at first)");
        GondolaTold x = Edge.rich();
        int g = x.guest(0, 5);
        Edge.due("of(g, 4)", x.of(g, 4), 0);
        Edge.due("about(0, 2)", x.about(0, 2), 1 << g);
    }

    private static GondolaTold goneFar(int strokes) {
        GondolaTold x = Edge.water("water 6;canal 0 1 9;rower 0 0;rower 3 0;rower 5 0;guest 0 40;");
        int place = 0;
        int left = strokes;
        while (left >= 9) {
            place = 1 - place;
            x.rows(0, 0, place);
            left -= 9;
        }
        if (left > 0) {
            x.canal(0, 1, left);
            x.rows(0, 0, 1 - place);
        }
        return x;
    }

    private static void strokesGoneEnd() {
        Edge.says(0, "STROKES gone (0 at first; 999 at most)");
        Edge.due("at first", goneFar(0).of(0, 5), 0);
        int[][] steps = {{990, 9, 999}, {998, 1, 999}, {998, 2, 999}, {997, 1, 998}, {997, 9, 999}, {999, 1, 999}};
        for (int[] s : steps) {
            GondolaTold x = goneFar(s[0]);
            Edge.due("of(0, 5)", x.of(0, 5), s[0]);
            int there = 1 - x.of(0, 4);
            x.canal(0, 1, s[1]);
            x.rows(0, 0, there);
            Edge.due(s[0] + " and " + s[1], x.of(0, 5), s[2]);
        }
    }

    /** 999 is odd and 166 times 6: one more would tell otherwise. */
    private static void strokesGoneAreCutBeforeOneIsTold() {
        Edge.says(0, "999 at most)");
        GondolaTold x = goneFar(998);
        x.canal(0, 1, 4);
        int there = 1 - x.of(0, 4);
        Edge.due("OFFHAND at 999", x.would(0, 2, there, 0), 1);
        Edge.due("WINDING at 999, no more than HOPE", x.would(0, 1, there, 0), 40);
        GondolaTold y = goneFar(994);
        y.canal(0, 1, 4);
        Edge.due("OFFHAND at 998", y.would(0, 2, 1 - y.of(0, 4), 0), 3);
    }

    // ---- kinds of rowers

    /** What a guest of HOPE 40 knows who was told once, at the last of so many strokes. */
    private static int told(int kind, int tongue, int dark, int strokes) {
        GondolaTold x = new GondolaTold();
        int mute = x.rower(0, 0);
        int r = x.rower(kind, tongue);
        x.guest(0, 40);
        int left = strokes;
        int place = 0;
        x.canal(0, 1, 9);
        while (left > 9) {
            place = 1 - place;
            x.rows(0, mute, place);
            left -= 9;
        }
        x.dark(2, dark);
        x.canal(place, 2, left);
        return x.rows(0, r, 2);
    }

    /** Of all that could have been told a MARK of the KIND fits by m alone. */
    private static void marksAs(int kind, int tongue, int dark, int strokes, int m) {
        GondolaTold x = new GondolaTold();
        x.rower(0, 0);
        for (int other = Math.max(0, m - 1); other <= m + 1; other++) {
            x.mark(0, tongue, dark, strokes, other);
            Edge.due("kind " + kind + ", tongue " + tongue + ", dark " + dark + ", gone " + strokes + " tells " + other,
                    x.kinds(0) >> kind & 1, other == m ? 1 : 0);
            x.forget(2);
        }
    }

    private static void dueTold(int kind, int tongue, int dark, int strokes, int m) {
        if (strokes > 0) {
            Edge.due("rower kind " + kind + ", tongue " + tongue + ", dark " + dark + ", gone " + strokes,
                    told(kind, tongue, dark, strokes), m);
        }
        marksAs(kind, tongue, dark, strokes, m);
    }

    private static void kindsOfRowers() {
        Edge.says(0, "KINDS of ROWERS, each under the one told, say how much one of TONGUE g tells at a PLACE that is"
                + " d DARK, s STROKES being gone:");
        int[] inTheDark = {5, 8, 5, 7, 7, 8};
        int[] inTheLight = {5, 8, 0, 2, 2, 6};
        for (int kind = 0; kind < 6; kind++) {
            dueTold(kind, 5, 4, 12, inTheDark[kind]);
            dueTold(kind, 5, 3, 13, inTheLight[kind]);
        }
        GondolaTold x = new GondolaTold();
        Edge.due("there is no kind 6", x.rower(6, 0), -2);
    }

    private static void plainTells() {
        Edge.says(0, "0 PLAIN: g.");
        dueTold(0, 0, 0, 1, 0);
        dueTold(0, 9, 9, 99, 9);
        dueTold(0, 9, 0, 0, 9);
    }

    private static void bluntTells() {
        Edge.says(0, "1 BLUNT (under PLAIN): 3 more than PLAIN.");
        dueTold(1, 0, 0, 1, 3);
        dueTold(1, 9, 9, 99, 12);
        dueTold(1, 9, 0, 0, 12);
    }

    private static void shyTells() {
        Edge.says(0, "2 SHY (under PLAIN): PLAIN, none, if d is below 4.");
        dueTold(2, 9, 0, 1, 0);
        dueTold(2, 9, 3, 1, 0);
        dueTold(2, 9, 4, 1, 9);
        dueTold(2, 9, 5, 1, 9);
        dueTold(2, 9, 9, 0, 9);
        dueTold(2, 0, 4, 1, 0);
    }

    private static void windingTells() {
        Edge.says(0, "3 WINDING (under SHY): SHY, 1 more for each 6 of s (cut).");
        int[][] more = {{0, 0}, {1, 0}, {5, 0}, {6, 1}, {11, 1}, {12, 2}, {17, 2}, {18, 3}, {95, 15}, {96, 16}, {99, 16}};
        for (int[] m : more) {
            dueTold(3, 4, 4, m[0], 4 + m[1]);
            dueTold(3, 4, 3, m[0], m[1]);
        }
    }

    private static void lateTells() {
        Edge.says(0, "4 LATE (under WINDING): WINDING, none, if s is below 10.");
        int[][] told = {{0, 0, 0}, {6, 0, 0}, {9, 0, 0}, {10, 5, 1}, {11, 5, 1}, {12, 6, 2}, {99, 20, 16}};
        for (int[] t : told) {
            dueTold(4, 4, 4, t[0], t[1]);
            dueTold(4, 4, 3, t[0], t[2]);
        }
    }

    /** No TONGUE is so short that 2 less would be below 0: the least is 1. */
    private static void offhandTells() {
        Edge.says(0, "5 OFFHAND (under BLUNT): BLUNT, 2 less, if s is an odd number, 0 at least.");
        dueTold(5, 0, 0, 1, 1);
        dueTold(5, 0, 9, 2, 3);
        dueTold(5, 9, 9, 99, 10);
        dueTold(5, 9, 0, 98, 12);
        dueTold(5, 0, 5, 0, 3);
    }

    // ---- kinds of guests

    /** Of all that it could have hurt a NOTE of the KIND fits by x alone. */
    private static void dueHurt(int kind, int hope, int knows, int m, int dark, int hurt) {
        GondolaTold x = new GondolaTold();
        x.guest(0, 1);
        for (int other = Math.max(0, hurt - 1); other <= hurt + 1; other++) {
            x.note(0, hope, knows, m, dark, other);
            Edge.due("guest kind " + kind + ", hope " + hope + ", knows " + knows + ", told " + m + ", dark " + dark
                    + " is hurt " + other, x.is(0) >> kind & 1, other == hurt ? 1 : 0);
            x.forget(1);
        }
        if (knows == 0 && m <= Math.min(9, hope)) {
            GondolaTold y = new GondolaTold();
            y.rower(0, m);
            y.guest(kind, hope);
            y.canal(0, 1, 1);
            y.dark(1, dark);
            y.rows(0, 0, 1);
            Edge.due("rowed: guest kind " + kind + ", hope " + hope + ", told " + m + ", dark " + dark, y.of(0, 3), hurt);
        }
    }

    private static void kindsOfGuests() {
        Edge.says(0, "KINDS of GUESTS, each under the one told, say how much it HURTS one of HOPE h, that KNOWS k, to be"
                + " told m at a PLACE that is d DARK:");
        int[] inTheLight = {6, 12, 8, 15, 15, 8};
        int[] inTheDark = {6, 6, 8, 9, 9, 8};
        for (int kind = 0; kind < 6; kind++) {
            dueHurt(kind, 10, 2, 6, 4, inTheLight[kind]);
            dueHurt(kind, 10, 2, 6, 5, inTheDark[kind]);
            dueHurt(kind, 10, 0, 0, 4, 0);
            dueHurt(kind, 40, 40, 0, 0, 0);
        }
        Edge.due("there is no kind 6", new GondolaTold().guest(6, 1), -2);
    }

    private static void plainHurts() {
        Edge.says(0, "0 PLAIN: m.");
        dueHurt(0, 40, 0, 0, 0, 0);
        dueHurt(0, 40, 0, 1, 0, 1);
        dueHurt(0, 1, 1, 20, 9, 20);
    }

    private static void proudHurts() {
        Edge.says(0, "1 PROUD (under PLAIN): PLAIN, twice, if d is below 5.");
        dueHurt(1, 40, 0, 9, 0, 18);
        dueHurt(1, 40, 0, 9, 4, 18);
        dueHurt(1, 40, 0, 9, 5, 9);
        dueHurt(1, 40, 0, 9, 9, 9);
        dueHurt(1, 40, 0, 20, 0, 40);
        dueHurt(1, 40, 0, 0, 0, 0);
    }

    private static void softHurts() {
        Edge.says(0, "2 SOFT (under PLAIN): PLAIN, if m is not 0 a fourth (cut) of h less k more.");
        int[][] fourths = {{1, 0}, {3, 0}, {4, 1}, {7, 1}, {8, 2}, {11, 2}, {39, 9}, {40, 10}};
        for (int[] f : fourths) {
            dueHurt(2, f[0], 0, 1, 0, 1 + f[1]);
            dueHurt(2, 40, 40 - f[0], 2, 9, 2 + f[1]);
            dueHurt(2, f[0], 0, 0, 0, 0);
        }
        dueHurt(2, 40, 40, 3, 0, 3);
        dueHurt(2, 40, 0, 20, 4, 30);
    }

    private static void vainHurts() {
        Edge.says(0, "3 VAIN (under PROUD): PROUD, 3 more, if m is not 0.");
        dueHurt(3, 40, 0, 0, 0, 0);
        dueHurt(3, 40, 0, 0, 9, 0);
        dueHurt(3, 40, 0, 1, 4, 5);
        dueHurt(3, 40, 0, 1, 5, 4);
        dueHurt(3, 40, 0, 20, 4, 43);
        dueHurt(3, 40, 0, 20, 5, 23);
    }

    private static void deafHurts() {
        Edge.says(0, "4 DEAF (under VAIN): VAIN, none, if m is below 3.");
        dueHurt(4, 40, 0, 0, 4, 0);
        dueHurt(4, 40, 0, 1, 4, 0);
        dueHurt(4, 40, 0, 2, 4, 0);
        dueHurt(4, 40, 0, 2, 5, 0);
        dueHurt(4, 40, 0, 3, 4, 9);
        dueHurt(4, 40, 0, 3, 5, 6);
    }

    private static void wiseHurts() {
        Edge.says(0, "5 WISE (under SOFT): SOFT, 9 at most.");
        dueHurt(5, 28, 0, 1, 0, 8);
        dueHurt(5, 32, 0, 1, 0, 9);
        dueHurt(5, 36, 0, 1, 0, 9);
        dueHurt(5, 40, 40, 9, 0, 9);
        dueHurt(5, 40, 40, 10, 9, 9);
        dueHurt(5, 40, 0, 20, 0, 9);
        dueHurt(5, 40, 0, 0, 0, 0);
    }

    // ---- how one is rowed

    private static void oneCanBeRowedByACanal() {
        Edge.says(0, "A GUEST CAN be ROWED by a ROWER to a PLACE, if there is a CANAL to it from where one is");
        GondolaTold x = Edge.water("water 6;canal 1 0 1;canal 1 2 1;rower 0 1;guest 0 9;");
        Edge.due("no canal from here", x.rows(0, 0, 2), -3);
        Edge.due("where one is", x.rows(0, 0, 0), -3);
        Edge.due("by a canal told the other way round", x.rows(0, 0, 1), 1);
        Edge.due("then it goes on", x.rows(0, 0, 2), 2);
        x.canal(1, 2, 0);
        Edge.due("the canal is no more", x.rows(0, 0, 1), -3);
    }

    private static void oneCanNotBeRowedFromTheSalute() {
        Edge.says(0, "and one is not at THE SALUTE:");
        GondolaTold x = Edge.allCanals();
        x.rower(0, 1);
        x.guest(0, 9);
        x.rows(0, 0, 7);
        for (int q = 0; q < 8; q++) {
            Edge.due("rows(0, 0, " + q + ")", x.rows(0, 0, q), -3);
            Edge.due("would(0, 0, " + q + ", 0)", x.would(0, 0, q, 0), -1);
        }
        Edge.due("of(0, 4)", x.of(0, 4), 7);
    }

    private static void strokesComeAheadOfWhatIsTold() {
        Edge.says(0, "STROKES gone are so many more; one is there; then what the ROWER tells there");
        GondolaTold x = Edge.water("water 9;dark 1 3;canal 0 1 9;canal 1 2 1;rower 4 3;rower 2 3;guest 0 9;guest 0 9;");
        Edge.due("LATE, 9 strokes", x.rows(0, 0, 1), 0);
        Edge.due("LATE, the 10th counts", x.rows(0, 0, 2), 4);
        Edge.due("SHY: it is as light as there", x.rows(1, 1, 1), 0);
        Edge.due("SHY: it is as dark as there", x.rows(1, 1, 2), 3);
        Edge.due("of(1, 4)", x.of(1, 4), 2);
        Edge.due("of(1, 5)", x.of(1, 5), 10);
    }

    private static void noMoreIsToldThanIsLeft() {
        Edge.says(0, "but no more than HOPE less KNOWS, is m:");
        GondolaTold x = Edge.water("water 9;canal 0 1 1;rower 0 9;rower 0 7;guest 4 11;guest 3 9;guest 0 10;guest 3 9;");
        x.rows(0, 0, 1);
        Edge.due("DEAF: 2 are left, which is below 3", x.rows(0, 0, 0), 11);
        Edge.due("of(0, 3)", x.of(0, 3), 12);
        Edge.due("VAIN: all at once", x.rows(1, 0, 1), 9);
        Edge.due("of(1, 3)", x.of(1, 3), 12);
        Edge.due("VAIN: nothing is left, it is 0", x.rows(1, 0, 0), 9);
        Edge.due("of(1, 3)", x.of(1, 3), 12);
        x.rows(2, 0, 1);
        Edge.due("1 is left", x.rows(2, 1, 0), 10);
        Edge.due("of(2, 3)", x.of(2, 3), 10);
        x.rows(3, 1, 1);
        Edge.due("2 are left", x.rows(3, 1, 0), 9);
        Edge.due("of(3, 3)", x.of(3, 3), 15);
    }

    private static void itHurtsBeforeOneKnows() {
        Edge.says(0, "HURT is so much more as it HURTS, then KNOWS is m more.");
        GondolaTold x = Edge.water("water 9;canal 0 1 1;rower 0 4;guest 2 8;");
        x.rows(0, 0, 1);
        Edge.due("a fourth of 8, not of 4", x.of(0, 3), 6);
        x.rows(0, 0, 0);
        Edge.due("a fourth of 4, not of 0", x.of(0, 3), 11);
        Edge.due("of(0, 2)", x.of(0, 2), 8);
    }

    private static void oneGetsInAgain() {
        Edge.says(0, "A GUEST GETS IN again: at PLACE 0, no STROKES gone (KNOWS, HURT stay).");
        GondolaTold x = Edge.rich();
        int[] want = {x.of(0, 0), x.of(0, 1), x.of(0, 2), x.of(0, 3), 0, 0};
        Edge.due("HURT is some", x.of(0, 3) > 0 ? 1 : 0, 1);
        Edge.due("STROKES gone are some", x.of(0, 5) > 0 ? 1 : 0, 1);
        x.enters(0);
        for (int what = 0; what < 6; what++) {
            Edge.due("of(0, " + what + ")", x.of(0, what), want[what]);
        }
    }
}
