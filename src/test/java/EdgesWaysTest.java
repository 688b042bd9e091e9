/** FAR, WOULD, WAY, GENTLE, WHERE, SHARE and promises 17 to 22: sentence by sentence. */
public final class EdgesWaysTest {
    public static void main(String[] args) throws Exception {
        Edge.all(EdgesWaysTest.class);
    }

    /** KNOWS, HURT, STROKES gone, how many, and the places; behind them there are no more. */
    private static void dueWay(String why, GondolaTold x, int g, int r, int... want) {
        for (int k = -4; k < want.length - 4; k++) {
            Edge.due(why + ": way(" + g + ", " + r + ", " + k + ")", x.way(g, r, k), want[k + 4]);
        }
        Edge.due(why + ": behind the last", x.way(g, r, want.length - 4), -5);
    }

    private static void dueNoWay(String why, GondolaTold x, int g, int r) {
        for (int k = -4; k <= 8; k++) {
            Edge.due(why + ": way(" + g + ", " + r + ", " + k + ")", x.way(g, r, k), -1);
        }
    }

    // ---- nothing is changed

    private static void nothingIsChanged() {
        Edge.says(0, "(Nothing is changed by these.)");
        GondolaTold made = Edge.rich();
        Edge.Act[] asked = {x -> x.far(0, 7), x -> x.would(0, 0, 3, 0), x -> x.would(0, 0, 2, 1), x -> x.way(0, 0, -4),
            x -> x.way(1, 1, 0), x -> x.way(0, 0, 99), x -> x.gentle(0, 0), x -> x.gentle(2, 1), x -> x.where(0, 0),
            x -> x.where(1, 1), x -> x.share(-3), x -> x.share(0), x -> x.tongues(0), x -> x.tell(1), x -> x.is(1),
            x -> x.look(1), x -> x.kinds(1), x -> x.ask(1), x -> x.lamp(0, 0, -1), x -> x.lamp(1, 1, 0),
            x -> x.nights(5, 60), x -> x.nights(999999, 60), x -> x.of(0, 2), x -> x.who(0, 1), x -> x.about(3, 1),
            x -> x.strokes(1, 2), x -> x.part(0), x -> x.status(0), x -> x.count(3), x -> x.digest()};
        for (int i = 0; i < asked.length; i++) {
            Edge.leaves("asked " + i, Edge::rich, asked[i], asked[i].on(made));
        }
    }

    // ---- FAR

    private static void farIsTheFewest() {
        Edge.says(0, "FAR: the fewest STROKES from a PLACE to another one");
        GondolaTold x = Edge.water("water 1;canal 0 1 9;canal 0 2 4;canal 2 1 4;canal 1 3 1;");
        Edge.due("far(0, 1): by another one", x.far(0, 1), 8);
        Edge.due("far(1, 0)", x.far(1, 0), 8);
        Edge.due("far(0, 3)", x.far(0, 3), 9);
        x.canal(0, 1, 8);
        Edge.due("far(0, 1): as few", x.far(0, 1), 8);
        x.canal(0, 1, 7);
        Edge.due("far(0, 1): straight on", x.far(0, 1), 7);
    }

    private static void farThroughAllPlaces() {
        Edge.says(0, "the fewest STROKES from a PLACE to another one");
        GondolaTold x = new GondolaTold();
        int[] order = {4, 2, 7, 0, 6, 1, 5, 3};
        for (int i = 0; i < 7; i++) {
            x.canal(order[i], order[i + 1], 9);
        }
        Edge.due("the farthest there is", x.far(4, 3), 63);
        Edge.due("and back", x.far(3, 4), 63);
        Edge.due("one goes through the Salute, too", x.far(2, 0), 18);
        GondolaTold row = new GondolaTold();
        for (int p = 0; p < 7; p++) {
            row.canal(p, p + 1, 1 + p);
        }
        Edge.due("rising", row.far(0, 7), 28);
        Edge.due("falling", row.far(7, 0), 28);
    }

    private static void farOfTheSame() {
        Edge.says(0, "(0: it is the same); none.");
        GondolaTold x = Edge.water("water 1;canal 0 1 9;canal 3 7 2;");
        for (int p = 0; p < 8; p++) {
            Edge.due("far(" + p + ", " + p + ")", x.far(p, p), 0);
        }
        Edge.due("far(0, 7): no way", x.far(0, 7), -1);
        Edge.due("far(7, 0)", x.far(7, 0), -1);
        Edge.due("far(5, 0): no canal at all", x.far(5, 0), -1);
        x.canal(1, 3, 9);
        Edge.due("far(0, 7): now there is", x.far(0, 7), 20);
        x.canal(1, 3, 0);
        Edge.due("far(0, 7): now there is none", x.far(0, 7), -1);
    }

    private static void farAnswers() {
        Edge.says(17, "FAR. NONE.");
        GondolaTold x = Edge.water("water 1;canal 0 7 9;");
        Edge.due("far(0, 7)", x.far(0, 7), 9);
        Edge.due("far(0, 6)", x.far(0, 6), GondolaTold.NONE);
        Edge.due("no refusal", Edge.refused(x), 0);
    }

    private static void farIsBad() {
        Edge.says(17, "BAD.");
        Edge.range("far(value, 3)", Edge::rich, (x, v) -> x.far(v, 3), 0, 7, -2);
        Edge.range("far(3, value)", Edge::rich, (x, v) -> x.far(3, v), 0, 7, -2);
        Edge.refuses("the same, that is none", Edge::rich, x -> x.far(8, 8), -2, 0);
        Edge.refuses("the same, that is none", Edge::rich, x -> x.far(-1, -1), -2, 0);
    }

    // ---- WOULD

    private static void wouldBeRowedNext() {
        Edge.says(0, "WOULD: KNOWS, HURT of a GUEST, if ROWED by a ROWER to a PLACE next;");
        Edge.Make make = Edge::rich;
        for (int g = 0; g < 3; g++) {
            for (int r = 0; r < 2; r++) {
                for (int q = 0; q < 8; q++) {
                    GondolaTold asked = make.make();
                    int knows = asked.would(g, r, q, 0);
                    int hurt = asked.would(g, r, q, 1);
                    if (q != asked.of(g, 4)) {
                        Edge.due("rows(" + g + ", " + r + ", " + q + ")", asked.rows(g, r, q), knows);
                        Edge.due("of(" + g + ", 3)", asked.of(g, 3), hurt);
                    }
                }
            }
        }
    }

    private static void wouldKnowNoMoreThanHope() {
        Edge.says(0, "WOULD: KNOWS, HURT of a GUEST");
        GondolaTold x = Edge.water("water 6;canal 0 1 1;rower 0 5;guest 3 6;row 0 0 1;");
        Edge.due("KNOWS", x.would(0, 0, 0, 0), 6);
        Edge.due("HURT in all", x.would(0, 0, 0, 1), 8 + 4);
        x.rows(0, 0, 0);
        Edge.due("KNOWS already", x.would(0, 0, 1, 0), 6);
        Edge.due("HURT already", x.would(0, 0, 1, 1), 12);
    }

    private static void wouldBeNone() {
        Edge.says(0, "none: one CAN not be.");
        GondolaTold x = Edge.water("water 6;canal 0 1 1;canal 0 7 1;canal 1 2 1;rower 0 5;guest 3 6;");
        for (int what = 0; what < 2; what++) {
            Edge.due("where one is", x.would(0, 0, 0, what), -1);
            Edge.due("no canal from here", x.would(0, 0, 2, what), -1);
        }
        x.rows(0, 0, 7);
        for (int q = 0; q < 8; q++) {
            Edge.due("at the Salute", x.would(0, 0, q, 0), -1);
            Edge.due("at the Salute", x.would(0, 0, q, 1), -1);
        }
    }

    private static void wouldAnswers() {
        Edge.says(18, "WOULD: KNOWS (0), HURT (1). NONE.");
        GondolaTold x = Edge.water("water 4;canal 0 1 1;rower 0 5;guest 1 6;");
        Edge.due("KNOWS", x.would(0, 0, 1, 0), 5);
        Edge.due("HURT", x.would(0, 0, 1, 1), 10);
        Edge.due("NONE", x.would(0, 0, 2, 0), GondolaTold.NONE);
        Edge.due("no refusal", Edge.refused(x), 0);
    }

    private static void wouldIsBad() {
        Edge.says(18, "BAD.");
        Edge.range("would(value, 0, 3, 0)", Edge::rich, (x, v) -> x.would(v, 0, 3, 0), 0, 2, -2);
        Edge.range("would(0, value, 3, 0)", Edge::rich, (x, v) -> x.would(0, v, 3, 0), 0, 1, -2);
        Edge.range("would(0, 0, value, 0)", Edge::rich, (x, v) -> x.would(0, 0, v, 0), 0, 7, -2);
        Edge.range("would(0, 0, 3, value)", Edge::rich, (x, v) -> x.would(0, 0, 3, v), 0, 1, -2);
        Edge.refuses("BAD, though one can not be", Edge::rich, x -> x.would(0, 0, 2, 2), -2, 0);
    }

    // ---- WAY

    private static void wayComesNowhereTwice() {
        Edge.says(0, "WAY of a GUEST by a ROWER: of all ways by CANALS from where one is to THE SALUTE on which no PLACE comes twice,");
        GondolaTold x = Edge.water("water 6;canal 0 1 1;canal 1 2 1;canal 1 7 1;canal 7 3 1;rower 0 5;guest 0 40;");
        dueWay("not to 2 and back", x, 0, 0, 10, 10, 2, 2, 1, 7);
        x.rows(0, 0, 1);
        dueWay("nor to 0 and back", x, 0, 0, 10, 10, 2, 1, 7);
        x.rows(0, 0, 2);
        dueWay("places of before may come", x, 0, 0, 20, 20, 4, 2, 1, 7);
        x.rows(0, 0, 1);
        x.rows(0, 0, 7);
        dueNoWay("it ends at the Salute", x, 0, 0);
    }

    private static void wayOfAllPlaces() {
        Edge.says(0, "on which no PLACE comes twice");
        GondolaTold x = new GondolaTold();
        for (int a = 0; a < 8; a++) {
            for (int b = a + 1; b < 8; b++) {
                x.canal(a, b, 1);
            }
        }
        x.rower(0, 1);
        x.guest(0, 40);
        dueWay("the longest", x, 0, 0, 7, 7, 7, 7, 1, 2, 3, 4, 5, 6, 7);
        x.rows(0, 0, 6);
        dueWay("the longest from 6", x, 0, 0, 8, 8, 8, 7, 0, 1, 2, 3, 4, 5, 7);
        x.water(1);
        x.canal(0, 7, 9);
        x.rower(0, 1);
        x.guest(0, 40);
        dueWay("the shortest", x, 0, 0, 1, 1, 9, 1, 7);
    }

    private static void wayByWhichOneKnowsMost() {
        Edge.says(0, "that by which one KNOWS most there,");
        GondolaTold x = Edge.water("water 6;dark 1 0;canal 0 7 1;canal 0 1 9;canal 1 7 9;rower 0 5;guest 1 6;guest 1 5;");
        dueWay("6, though it hurts and is long", x, 0, 0, 6, 11, 18, 2, 1, 7);
        dueWay("5 is all", x, 1, 0, 5, 5, 1, 1, 7);
    }

    private static void wayThatHurtsLeast() {
        Edge.says(0, "of like ones so that HURT is least,");
        GondolaTold x = Edge.water("water 6;dark 1 4;dark 2 5;canal 0 1 1;canal 1 7 1;canal 0 2 9;canal 2 7 9;rower 0 5;guest 1 9;");
        dueWay("by 2, though it is long", x, 0, 0, 9, 9, 18, 2, 2, 7);
        x.dark(1, 5);
        dueWay("by 1, it hurts as much", x, 0, 0, 9, 9, 2, 2, 1, 7);
        x.dark(2, 4);
        x.canal(2, 7, 1);
        x.canal(0, 2, 1);
        x.canal(0, 1, 9);
        dueWay("by 1, though it is long", x, 0, 0, 9, 9, 10, 2, 1, 7);
    }

    private static void wayOfTheFewestStrokes() {
        Edge.says(0, "of like ones so that STROKES gone are fewest,");
        GondolaTold x = Edge.water("water 6;canal 0 1 1;canal 1 7 3;canal 0 2 2;canal 2 7 1;rower 0 5;guest 0 9;");
        dueWay("by 2", x, 0, 0, 9, 9, 3, 2, 2, 7);
        x.canal(1, 7, 2);
        dueWay("by 1, as few", x, 0, 0, 9, 9, 3, 2, 1, 7);
        x.canal(1, 7, 1);
        dueWay("by 1", x, 0, 0, 9, 9, 2, 2, 1, 7);
    }

    /** 999 STROKES are as many as 999, however long the way was. */
    private static void wayBehindTheLastStroke() {
        Edge.says(0, "STROKES gone are fewest");
        GondolaTold x = new GondolaTold();
        x.canal(0, 6, 9);
        x.rower(0, 0);
        x.guest(0, 9);
        for (int i = 1; i <= 111; i++) {
            x.rows(0, 0, i % 2 == 1 ? 6 : 0);
        }
        x.rows(0, 0, 0);
        Edge.due("of(0, 5)", x.of(0, 5), 999);
        x.canal(0, 6, 0);
        x.canal(0, 7, 1);
        x.canal(0, 3, 9);
        x.canal(3, 7, 9);
        dueWay("like ones, the first", x, 0, 0, 0, 0, 999, 2, 3, 7);
    }

    private static void wayThatIsTheFirst() {
        Edge.says(0, "of like ones the first (PLACE by PLACE, rising):");
        GondolaTold x = Edge.water("water 6;canal 0 3 1;canal 3 7 1;canal 0 2 1;canal 2 7 1;rower 0 0;guest 0 9;");
        dueWay("2 is ahead of 3", x, 0, 0, 0, 0, 2, 2, 2, 7);
        x.canal(0, 7, 2);
        dueWay("2, 7 is ahead of 7", x, 0, 0, 0, 0, 2, 2, 2, 7);
        x.canal(2, 7, 3);
        x.canal(2, 6, 1);
        x.canal(3, 7, 2);
        x.canal(0, 7, 3);
        x.canal(6, 7, 1);
        x.canal(2, 7, 2);
        dueWay("2, 6, 7 is ahead of 2, 7 and 3, 7 and 7", x, 0, 0, 0, 0, 3, 3, 2, 6, 7);
    }

    private static void wayTells() {
        Edge.says(0, "KNOWS, HURT, STROKES gone there, how many PLACES one is ROWED to, which as the k-th;");
        GondolaTold x = Edge.water("water 4;canal 0 4 3;canal 4 2 5;canal 2 7 7;rower 0 3;guest 1 8;row 0 0 4;");
        dueWay("with what was ahead of it", x, 0, 0, 8, 16, 15, 2, 2, 7);
    }

    private static void wayThatIsNone() {
        Edge.says(0, "none: no such way (one is at THE SALUTE, too).");
        GondolaTold x = Edge.water("water 4;canal 0 1 3;canal 6 7 3;canal 1 2 1;rower 0 3;guest 1 8;");
        dueNoWay("it is cut off", x, 0, 0);
        x.canal(2, 6, 1);
        dueWay("now there is one", x, 0, 0, 8, 16, 8, 4, 1, 2, 6, 7);
        x.canal(0, 7, 1);
        x.rows(0, 0, 7);
        dueNoWay("at the Salute", x, 0, 0);
    }

    private static void wayAnswers() {
        Edge.says(19, "WAY: KNOWS (k = -4), HURT (-3), STROKES gone (-2), how many (-1), the k-th PLACE.");
        GondolaTold x = Edge.water("water 4;canal 0 6 3;canal 6 7 5;rower 0 3;guest 1 8;");
        int[] want = {6, 12, 8, 2, 6, 7};
        for (int k = -4; k < 2; k++) {
            Edge.due("way(0, 0, " + k + ")", x.way(0, 0, k), want[k + 4]);
        }
    }

    private static void wayAnswersNone() {
        Edge.says(19, "NONE: no WAY.");
        GondolaTold x = Edge.water("water 4;rower 0 3;guest 1 8;");
        dueNoWay("no canal", x, 0, 0);
        Edge.due("way(0, 0, MAX)", x.way(0, 0, Edge.MAX), -1);
        Edge.due("no refusal", Edge.refused(x), 0);
    }

    private static void wayHasNotSoMany() {
        Edge.says(19, "-5: not so many.");
        GondolaTold x = Edge.water("water 4;canal 0 6 3;canal 6 7 5;rower 0 3;guest 1 8;");
        Edge.due("the last", x.way(0, 0, 1), 7);
        Edge.due("one behind it", x.way(0, 0, 2), -5);
        Edge.due("way(0, 0, 7)", x.way(0, 0, 7), -5);
        Edge.due("way(0, 0, 8)", x.way(0, 0, 8), -5);
        Edge.due("way(0, 0, MAX)", x.way(0, 0, Edge.MAX), -5);
        Edge.due("no refusal", Edge.refused(x), 0);
    }

    private static void wayIsBad() {
        Edge.says(19, "BAD: -10.");
        Edge.range("way(value, 0, 0)", Edge::rich, (x, v) -> x.way(v, 0, 0), 0, 2, -10);
        Edge.range("way(0, value, 0)", Edge::rich, (x, v) -> x.way(0, v, 0), 0, 1, -10);
        Edge.refuses("way(0, 0, -5)", Edge::rich, x -> x.way(0, 0, -5), -10, 0);
        Edge.refuses("way(0, 0, MIN)", Edge::rich, x -> x.way(0, 0, Edge.MIN), -10, 0);
        Edge.refuses("way(0, 0, -5) without a way", () -> Edge.water("water 4;rower 0 3;guest 1 8;"), x -> x.way(0, 0, -5), -10, 0);
    }

    // ---- GENTLE

    private static final String BY_LAMPS = "water 6;dark 1 2;dark 2 8;canal 0 7 1;canal 0 1 1;canal 1 7 1;canal 0 2 9;canal 2 7 9;rower 0 5;";

    private static void gentleIsTheLeastHurt() {
        Edge.says(0, "GENTLE: the least HURT at THE SALUTE by all those ways by which one is TOLD there;");
        GondolaTold x = Edge.water(BY_LAMPS + "guest 1 10;guest 1 5;guest 3 10;");
        Edge.due("by 2, in the dark", x.gentle(0, 0), 10);
        Edge.due("straight on", x.gentle(1, 0), 5);
        Edge.due("VAIN", x.gentle(2, 0), 16);
        x.dark(1, 8);
        x.dark(2, 2);
        Edge.due("by 1, now that it is dark there", x.gentle(0, 0), 10);
        x.dark(1, 2);
        x.dark(2, 8);
        x.canal(2, 7, 0);
        Edge.due("by 1 alone is one told all", x.gentle(0, 0), 15);
        Edge.due("straight on", x.gentle(1, 0), 5);
    }

    /** The WAY tells as much; yet what is gentle is not asked among the ways that tell most alone: they are the same. */
    private static void gentleOfOneToldAlready() {
        Edge.says(0, "by which one is TOLD there");
        GondolaTold x = Edge.water(BY_LAMPS + "guest 1 5;row 0 0 1;");
        Edge.due("nothing more hurts", x.gentle(0, 0), 10);
        GondolaTold y = Edge.water(BY_LAMPS + "guest 1 1;");
        Edge.due("the least HOPE", y.gentle(0, 0), 1);
    }

    private static void gentleIsNone() {
        Edge.says(20, "GENTLE. NONE.");
        GondolaTold x = Edge.water(BY_LAMPS + "guest 1 10;guest 1 11;guest 0 5;");
        Edge.due("10 can be told", x.gentle(0, 0), 10);
        Edge.due("11 can not", x.gentle(1, 0), -1);
        x.rows(2, 0, 7);
        Edge.due("told, and at the Salute", x.gentle(2, 0), -1);
        x.canal(1, 7, 0);
        x.canal(0, 7, 0);
        x.canal(2, 7, 0);
        Edge.due("no way", x.gentle(0, 0), -1);
        x.rows(1, 0, 1);
        x.rows(1, 0, 0);
        x.rows(1, 0, 1);
        Edge.due("told, and no way", x.gentle(1, 0), -1);
        Edge.due("no refusal", Edge.refused(x), 0);
    }

    private static void gentleIsBad() {
        Edge.says(20, "BAD.");
        Edge.range("gentle(value, 0)", Edge::rich, (x, v) -> x.gentle(v, 0), 0, 2, -2);
        Edge.range("gentle(0, value)", Edge::rich, (x, v) -> x.gentle(0, v), 0, 1, -2);
    }

    private static void gentleMayBeNone() {
        Edge.says(0, "none. WHERE");
        Edge.due("gentle(0, 0)", Edge.water("water 1;rower 0 1;guest 0 1;").gentle(0, 0), -1);
    }

    // ---- WHERE

    private static final String IN_A_ROW = "water 6;canal 0 1 1;canal 1 2 1;canal 2 7 1;rower 0 5;rower 0 0;";

    private static void whereOneIsToldFirst() {
        Edge.says(0, "WHERE one is TOLD first by the WAY:");
        GondolaTold x = Edge.water(IN_A_ROW + "guest 0 1;guest 0 5;guest 0 6;guest 0 10;");
        Edge.due("by the first place", x.where(0, 0), 0);
        Edge.due("just by the first", x.where(1, 0), 0);
        Edge.due("by the second", x.where(2, 0), 1);
        Edge.due("just by the second", x.where(3, 0), 1);
    }

    private static void whereOneIsToldAlready() {
        Edge.says(0, "-3, if one is TOLD already;");
        GondolaTold x = Edge.water(IN_A_ROW + "guest 0 5;guest 0 5;row 0 0 1;");
        Edge.due("told already", x.where(0, 0), -3);
        Edge.due("not told yet", x.where(1, 0), 0);
        x.canal(2, 7, 0);
        Edge.due("told comes ahead of no way", x.where(0, 0), -3);
        x.canal(2, 7, 1);
        x.rows(0, 0, 2);
        x.rows(0, 0, 7);
        Edge.due("told and at the Salute", x.where(0, 0), -3);
        Edge.due("no refusal", Edge.refused(x), 0);
    }

    private static void whereThereIsNoWay() {
        Edge.says(0, "else -4, if there is no WAY;");
        GondolaTold x = Edge.water(IN_A_ROW + "guest 0 40;row 0 0 1;row 0 0 2;row 0 0 7;guest 0 40;");
        Edge.due("at the Salute", x.where(0, 0), -4);
        Edge.due("there is one", x.where(1, 0), -1);
        x.canal(0, 1, 0);
        Edge.due("cut off", x.where(1, 0), -4);
        Edge.due("no refusal", Edge.refused(x), 0);
    }

    private static void whereNever() {
        Edge.says(0, "else its k (NONE: never by it).");
        GondolaTold x = Edge.water(IN_A_ROW + "guest 0 15;guest 0 16;guest 0 1;");
        Edge.due("just at the Salute", x.where(0, 0), 2);
        Edge.due("never", x.where(1, 0), -1);
        Edge.due("never by one who tells nothing", x.where(2, 1), -1);
    }

    private static void whereAnswers() {
        Edge.says(21, "WHERE: its k; NONE; -3, -4 as told.");
        GondolaTold x = Edge.water(IN_A_ROW + "guest 0 11;guest 0 5;guest 0 40;row 1 0 1;");
        Edge.due("where(0, 0)", x.where(0, 0), 2);
        Edge.due("where(1, 0)", x.where(1, 0), -3);
        Edge.due("where(2, 0)", x.where(2, 0), -1);
        x.canal(2, 7, 0);
        Edge.due("where(2, 0)", x.where(2, 0), -4);
        for (int i = 0; i < 3; i++) {
            Edge.due("none of these is refused", x.status(i), 0);
        }
    }

    private static void whereIsBad() {
        Edge.says(21, "BAD: -10.");
        Edge.range("where(value, 0)", Edge::rich, (x, v) -> x.where(v, 0), 0, 2, -10);
        Edge.range("where(0, value)", Edge::rich, (x, v) -> x.where(0, v), 0, 1, -10);
        Edge.refuses("BAD comes ahead of -3", () -> Edge.water(IN_A_ROW + "guest 0 5;row 0 0 1;"), x -> x.where(0, 2), -10, 0);
    }

    // ---- SHARE

    private static void dueShare(String why, GondolaTold x, int knows, int hurt, int... rowers) {
        Edge.due(why + ": share(-3)", x.share(-3), knows);
        Edge.due(why + ": share(-2)", x.share(-2), hurt);
        for (int g = 0; g < rowers.length; g++) {
            Edge.due(why + ": share(" + g + ")", x.share(g), rowers[g]);
        }
    }

    private static void dueNoShare(String why, GondolaTold x) {
        Edge.due(why + ": share(-3)", x.share(-3), -5);
        Edge.due(why + ": share(-2)", x.share(-2), -5);
        for (int g = 0; g < x.count(2); g++) {
            Edge.due(why + ": share(" + g + ")", x.share(g), -5);
        }
    }

    private static void noneRowsMoreThanTwo() {
        Edge.says(0, "SHARE: each GUEST that is not at THE SALUTE is ROWED by a ROWER, none ROWING more than 2, by the WAY:");
        String first = "water 6;canal 0 7 1;rower 0 5;";
        dueShare("2 by 1", Edge.water(first + "guest 0 40;guest 0 40;"), 10, 10, 0, 0);
        dueNoShare("3 by 1", Edge.water(first + "guest 0 40;guest 0 40;guest 0 40;"));
        dueShare("3 by 2", Edge.water(first + "rower 0 4;guest 0 40;guest 0 40;guest 0 40;"), 14, 14, 0, 0, 1);
        dueShare("4 by 2", Edge.water(first + "rower 0 4;guest 0 40;guest 0 40;guest 0 40;guest 0 40;"), 18, 18, 0, 0, 1, 1);
        dueShare("4 by 3", Edge.water(first + "rower 0 4;rower 0 6;guest 0 40;guest 0 40;guest 0 40;guest 0 40;"),
                22, 22, 0, 0, 2, 2);
        dueShare("the one at the Salute is not rowed",
                Edge.water(first + "guest 0 40;guest 0 40;guest 0 40;row 1 0 7;"), 15, 15, 0, -1, 0);
    }

    /** The WAY knows most, though it hurts more than going straight on. */
    private static void eachIsRowedByTheWay() {
        Edge.says(0, "is ROWED by a ROWER, none ROWING more than 2, by the WAY");
        GondolaTold x = Edge.water("water 6;dark 1 0;canal 0 7 1;canal 0 1 9;canal 1 7 9;rower 0 5;guest 1 6;");
        dueShare("by the WAY", x, 6, 11, 0);
    }

    private static void allKnowMost() {
        Edge.says(0, "so that all GUESTS together KNOW most then,");
        GondolaTold x = Edge.water("water 6;canal 0 7 1;rower 0 9;rower 0 5;guest 1 5;guest 1 9;guest 1 9;");
        dueShare("the long tongue goes to those of much hope", x, 23, 23, 1, 0, 0);
        GondolaTold y = Edge.water("water 2;canal 0 7 1;rower 0 5;rower 0 4;guest 1 9;guest 0 9;guest 0 9;");
        dueShare("most, though it hurts one twice", y, 14, 18, 1, 0, 0);
    }

    private static void allAreHurtLeast() {
        Edge.says(0, "of like ones so that HURT of all GUESTS is least,");
        GondolaTold x = Edge.water("water 6;dark 1 2;canal 0 1 1;canal 1 7 1;rower 0 5;rower 2 5;guest 1 5;guest 0 5;");
        dueShare("the shy one waits for the dark", x, 10, 10, 1, 0);
        GondolaTold y = Edge.water("water 2;canal 0 7 1;rower 0 5;rower 0 4;guest 0 9;guest 0 9;guest 1 9;");
        dueShare("the proud one is told less", y, 14, 18, 0, 0, 1);
    }

    private static void theFirstShare() {
        Edge.says(0, "of like ones the first (GUEST by GUEST, the least ROWER):");
        GondolaTold x = Edge.water("water 6;canal 0 7 1;rower 0 5;rower 0 5;rower 0 5;guest 0 9;guest 0 9;guest 0 9;guest 0 9;");
        dueShare("all alike", x, 20, 20, 0, 0, 1, 1);
        x.rows(1, 0, 7);
        dueShare("one is there", x, 20, 20, 0, -1, 0, 1);
    }

    private static void theRowerOfAGuest() {
        Edge.says(0, "the ROWER of a GUEST (NONE: at THE SALUTE already);");
        GondolaTold x = Edge.water("water 6;canal 0 7 1;rower 0 5;guest 0 9;guest 0 9;row 0 0 7;");
        dueShare("one is there", x, 10, 10, -1, 0);
        x.rows(1, 0, 7);
        dueShare("both are there", x, 10, 10, -1, -1);
        Edge.due("no refusal", Edge.refused(x), 0);
        GondolaTold none = new GondolaTold();
        dueShare("no guests", none, 0, 0);
    }

    private static void shareThatCanNotBe() {
        Edge.says(0, "none: it can not be (some has no WAY, or too many GUESTS).");
        GondolaTold x = Edge.water("water 6;canal 0 7 1;canal 0 1 1;rower 0 5;guest 0 9;guest 0 9;row 1 0 1;canal 0 1 0;");
        dueNoShare("one has no way", x);
        x.rows(0, 0, 7);
        dueNoShare("one has no way, the other is there", x);
        dueNoShare("no rower", Edge.water("water 6;canal 0 7 1;guest 0 9;"));
        GondolaTold y = Edge.water("water 6;canal 0 7 1;rower 0 5;guest 0 9;guest 0 9;guest 0 9;guest 0 9;row 0 0 7;");
        dueNoShare("too many", y);
        y.rows(3, 0, 7);
        dueShare("not too many", y, 20, 20, -1, 0, 0, -1);
        Edge.due("no refusal", Edge.refused(x) + Edge.refused(y), 0);
    }

    private static void shareAnswers() {
        Edge.says(22, "SHARE: KNOWS of all (g = -3), HURT of all (-2), the ROWER of a GUEST.");
        GondolaTold x = Edge.water("water 2;canal 0 7 1;rower 0 5;guest 1 9;guest 0 9;guest 0 30;row 2 0 7;");
        Edge.due("share(-3)", x.share(-3), 15);
        Edge.due("share(-2)", x.share(-2), 20);
        Edge.due("share(0)", x.share(0), 0);
        Edge.due("share(1)", x.share(1), 0);
    }

    private static void shareAnswersNone() {
        Edge.says(22, "NONE: at THE SALUTE;");
        GondolaTold x = Edge.water("water 2;canal 0 7 1;rower 0 5;guest 1 9;guest 0 9;row 1 0 7;");
        Edge.due("share(1)", x.share(1), GondolaTold.NONE);
        Edge.due("share(0)", x.share(0), 0);
        Edge.due("no refusal", Edge.refused(x), 0);
    }

    private static void shareAnswersThatItCanNotBe() {
        Edge.says(22, "-5: it can not be.");
        GondolaTold x = Edge.water("water 2;rower 0 5;guest 1 9;");
        dueNoShare("no canal", x);
        Edge.due("no refusal", Edge.refused(x), 0);
    }

    private static void shareIsBad() {
        Edge.says(22, "BAD: -10.");
        Edge.range("share(value)", Edge::rich, (x, v) -> x.share(v), 0, 2, -10);
        int[] wrong = {-1, -4, 3, Edge.MIN, Edge.MAX};
        for (int g : wrong) {
            Edge.refuses("share(" + g + ")", Edge::rich, x -> x.share(g), -10, 0);
            Edge.refuses("BAD comes ahead of -5: share(" + g + ")", () -> Edge.water("water 2;guest 0 1;"), x -> x.share(g), -10, 0);
        }
        Edge.refuses("no guest 0", GondolaTold::new, x -> x.share(0), -10, 0);
        Edge.range("share(value) of four", Edge::full, (x, v) -> x.share(v), 0, 3, -10);
    }
}
