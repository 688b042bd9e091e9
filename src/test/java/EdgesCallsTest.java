/** Promises 1 to 6 and 10 to 16, and UNDO: sentence by sentence. */
public final class EdgesCallsTest {
    public static void main(String[] args) throws Exception {
        Edge.all(EdgesCallsTest.class);
    }

    // ---- promise 1

    private static void aNewObjectIsAsTold() {
        Edge.says(1, "As told;");
        GondolaTold x = new GondolaTold();
        for (int p = 0; p < 8; p++) {
            Edge.due("about(" + p + ", 0)", x.about(p, 0), 3);
        }
        for (int what = 0; what <= 10; what++) {
            Edge.due("count(" + what + ")", x.count(what), 0);
        }
        for (int what = 0; what < 3; what++) {
            Edge.due("status(" + what + ")", x.status(what), 0);
        }
        Edge.due("part(0)", x.part(0), 0);
        Edge.due("part(1)", x.part(1), 1);
        Edge.due("no text", x.clear(), 0);
        Edge.due("nothing to undo", x.undo(), -3);
        Edge.due("no image", x.from(0), -3);
        Edge.due("no image", x.from(1), -3);
    }

    private static void aNewObjectIsEmpty() {
        Edge.says(1, "no CANALS, no ROWERS, no GUESTS.");
        GondolaTold x = new GondolaTold();
        for (int p = 0; p < 8; p++) {
            Edge.due("about(" + p + ", 1)", x.about(p, 1), 0);
            Edge.due("about(" + p + ", 2)", x.about(p, 2), 0);
        }
        Edge.due("who(0, 0)", x.who(0, 0), -2);
        Edge.due("of(0, 0)", x.of(0, 0), -2);
        Edge.due("rows(0, 0, 1)", x.rows(0, 0, 1), -2);
        Edge.due("enters(0)", x.enters(0), -2);
        Edge.due("far(0, 7)", x.far(0, 7), -1);
    }

    private static void objectsAreApart() {
        Edge.says(1, "As told; no CANALS, no ROWERS, no GUESTS.");
        long fresh = new GondolaTold().digest();
        GondolaTold x = Edge.full();
        Edge.due("another one is new", new GondolaTold().digest(), fresh);
        Edge.due("and this one is not", x.digest() == fresh ? 1 : 0, 0);
    }

    // ---- promise 2

    private static void waterMakesAllDark() {
        Edge.says(2, "All PLACES are d DARK (0 .. 9);");
        Edge.range("water(value)", Edge::rich, (x, v) -> x.water(v), 0, 9, -2);
        for (int d = 0; d <= 9; d += 9) {
            GondolaTold x = Edge.rich();
            x.water(d);
            for (int p = 0; p < 8; p++) {
                Edge.due("about(" + p + ", 0)", x.about(p, 0), d);
            }
        }
    }

    private static void waterMakesAllElseAsAtFirst() {
        Edge.says(2, "all else as at first (but for IMAGES, THE TEXT, THE FRACTION, STATUS):");
        GondolaTold x = Edge.full();
        x.odds(0, 0, 12, 3);
        long above = x.part(0);
        long below = x.part(1);
        int[] refused = {x.status(0), x.status(1), x.status(2)};
        long then = x.digest();
        x.image(1);
        x.water(3);
        for (int what = 0; what <= 9; what++) {
            Edge.due("count(" + what + ")", x.count(what), 0);
        }
        Edge.due("count(10)", x.count(10), 150);
        Edge.due("part(0)", x.part(0), above);
        Edge.due("part(1)", x.part(1), below);
        for (int i = 0; i < 3; i++) {
            Edge.due("status(" + i + ")", x.status(i), refused[i]);
        }
        Edge.due("from(1)", x.from(1), 1);
        Edge.due("digest()", x.digest(), then);
    }

    private static void waterAnswersHowManyGuests() {
        Edge.says(2, "how many GUESTS there were.");
        GondolaTold x = new GondolaTold();
        for (int n = 0; n <= 4; n++) {
            for (int g = 0; g < n; g++) {
                x.guest(g, 9);
            }
            Edge.due("water(4)", x.water(4), n);
        }
        Edge.due("water(4)", x.water(4), 0);
    }

    private static void waterIsBad() {
        Edge.says(2, "BAD.");
        Edge.refuses("water(-1)", Edge::full, x -> x.water(-1), -2, 0);
        Edge.refuses("water(10)", Edge::full, x -> x.water(10), -2, 0);
    }

    // ---- promise 3

    private static void darkAnswersWhatItWas() {
        Edge.says(3, "How DARK a PLACE is: what it was.");
        GondolaTold x = new GondolaTold();
        Edge.due("dark(7, 0)", x.dark(7, 0), 3);
        Edge.due("dark(7, 9)", x.dark(7, 9), 0);
        Edge.due("dark(7, 9)", x.dark(7, 9), 9);
        Edge.due("dark(0, 5)", x.dark(0, 5), 3);
        int[] want = {5, 3, 3, 3, 3, 3, 3, 9};
        for (int p = 0; p < 8; p++) {
            Edge.due("about(" + p + ", 0)", x.about(p, 0), want[p]);
        }
    }

    private static void darkIsBad() {
        Edge.says(3, "BAD.");
        Edge.range("dark(value, 3)", Edge::rich, (x, v) -> x.dark(v, 3), 0, 7, -2);
        Edge.range("dark(3, value)", Edge::rich, (x, v) -> x.dark(3, v), 0, 9, -2);
    }

    // ---- promise 4

    private static void canalAnswersWhatWasThere() {
        Edge.says(4, "A CANAL of s STROKES (0: none): what was there.");
        GondolaTold x = new GondolaTold();
        Edge.due("canal(0, 7, 1)", x.canal(0, 7, 1), 0);
        Edge.due("canal(7, 0, 9)", x.canal(7, 0, 9), 1);
        Edge.due("canal(0, 7, 0)", x.canal(0, 7, 0), 9);
        Edge.due("count(0)", x.count(0), 0);
        Edge.due("canal(0, 7, 0): none stays none", x.canal(0, 7, 0), 0);
        Edge.due("canal(0, 7, 4)", x.canal(0, 7, 4), 0);
        Edge.due("count(0)", x.count(0), 1);
    }

    private static void canalIsBad() {
        Edge.says(4, "BAD:");
        Edge.range("canal(value, 3, 4)", Edge::rich, (x, v) -> x.canal(v, 3, 4), 0, 7, -2);
        Edge.range("canal(3, value, 4)", Edge::rich, (x, v) -> x.canal(3, v, 4), 0, 7, -2);
        Edge.range("canal(3, 4, value)", Edge::rich, (x, v) -> x.canal(3, 4, v), 0, 9, -2);
    }

    private static void canalOfAlikeOnes() {
        Edge.says(4, "alike, too.");
        for (int p = 0; p < 8; p++) {
            int place = p;
            Edge.refuses("canal(p, p, 1)", Edge::rich, x -> x.canal(place, place, 1), -2, 0);
        }
        Edge.refuses("canal(3, 3, 0)", Edge::rich, x -> x.canal(3, 3, 0), -2, 0);
    }

    // ---- promises 5 and 6

    private static void rowerAnswersTheNumber() {
        Edge.says(5, "A ROWER: the number.");
        GondolaTold x = new GondolaTold();
        for (int r = 0; r < 3; r++) {
            Edge.due("rower(0, 1)", x.rower(0, 1), r);
        }
        x.water(1);
        Edge.due("behind a water they begin anew", x.rower(0, 1), 0);
    }

    private static void rowerIsBad() {
        Edge.says(5, "BAD;");
        Edge.range("rower(value, 3)", Edge::rich, (x, v) -> x.rower(v, 3), 0, 5, -2);
        Edge.range("rower(3, value)", Edge::rich, (x, v) -> x.rower(3, v), 0, 9, -2);
    }

    private static void rowerIsFull() {
        Edge.says(5, "FULL: 3.");
        Edge.refuses("rower(0, 0)", Edge::full, x -> x.rower(0, 0), -4, 2);
        Edge.refuses("BAD comes ahead of FULL: rower(6, 0)", Edge::full, x -> x.rower(6, 0), -2, 0);
        Edge.refuses("BAD comes ahead of FULL: rower(0, 10)", Edge::full, x -> x.rower(0, 10), -2, 0);
    }

    private static void guestAnswersTheNumber() {
        Edge.says(6, "A GUEST: the number.");
        GondolaTold x = new GondolaTold();
        for (int g = 0; g < 4; g++) {
            Edge.due("guest(0, 1)", x.guest(0, 1), g);
        }
        x.water(1);
        Edge.due("behind a water they begin anew", x.guest(0, 1), 0);
    }

    /** Whoever sat there ahead of a water leaves nothing behind. */
    private static void aGuestThatComesIsNew() {
        Edge.says(6, "A GUEST");
        GondolaTold x = Edge.rich();
        x.water(4);
        for (int g = 0; g < 4; g++) {
            x.guest(5, 7);
            int[] want = {5, 7, 0, 0, 0, 0};
            for (int what = 0; what < 6; what++) {
                Edge.due("of(" + g + ", " + what + ")", x.of(g, what), want[what]);
            }
        }
    }

    private static void guestIsBad() {
        Edge.says(6, "BAD;");
        Edge.range("guest(value, 3)", Edge::rich, (x, v) -> x.guest(v, 3), 0, 5, -2);
        Edge.range("guest(3, value)", Edge::rich, (x, v) -> x.guest(3, v), 1, 40, -2);
    }

    private static void guestIsFull() {
        Edge.says(6, "FULL: 4.");
        Edge.refuses("guest(0, 1)", Edge::full, x -> x.guest(0, 1), -4, 2);
        Edge.refuses("BAD comes ahead of FULL: guest(6, 1)", Edge::full, x -> x.guest(6, 1), -2, 0);
        Edge.refuses("BAD comes ahead of FULL: guest(0, 0)", Edge::full, x -> x.guest(0, 0), -2, 0);
        Edge.refuses("BAD comes ahead of FULL: guest(0, 41)", Edge::full, x -> x.guest(0, 41), -2, 0);
    }

    // ---- promise 10

    private static void rowsAnswersKnows() {
        Edge.says(10, "A GUEST is ROWED: KNOWS then.");
        GondolaTold x = Edge.water("water 6;canal 0 1 1;rower 0 0;rower 0 4;guest 0 9;");
        Edge.due("told nothing", x.rows(0, 0, 1), 0);
        Edge.due("told 4", x.rows(0, 1, 0), 4);
        Edge.due("told 4 more", x.rows(0, 1, 1), 8);
        Edge.due("told what is left", x.rows(0, 1, 0), 9);
        Edge.due("told already", x.rows(0, 1, 1), 9);
    }

    private static void rowsIsBad() {
        Edge.says(10, "BAD;");
        Edge.range("rows(value, 0, 3)", Edge::rich, (x, v) -> x.rows(v, 0, 3), 0, 2, -2);
        Edge.range("rows(0, value, 3)", Edge::rich, (x, v) -> x.rows(0, v, 3), 0, 1, -2);
        Edge.range("rows(0, 0, value)", Edge::rich, (x, v) -> x.rows(0, 0, v), 0, 7, -2);
    }

    private static void rowsIsNo() {
        Edge.says(10, "NO: one CAN not be.");
        Edge.refuses("rows(0, 0, 2): where one is", Edge::rich, x -> x.rows(0, 0, 2), -3, 1);
        Edge.Make cut = () -> {
            GondolaTold x = Edge.rich();
            x.canal(2, 3, 0);
            x.rows(1, 0, 7);
            return x;
        };
        Edge.refuses("rows(0, 0, 3): no canal", cut, x -> x.rows(0, 0, 3), -3, 1);
        Edge.refuses("rows(1, 0, 3): at the Salute", cut, x -> x.rows(1, 0, 3), -3, 1);
        Edge.refuses("rows(1, 0, 7): at the Salute", cut, x -> x.rows(1, 0, 7), -3, 1);
        Edge.refuses("BAD comes ahead of NO: rows(1, 2, 3)", cut, x -> x.rows(1, 2, 3), -2, 0);
        Edge.refuses("BAD comes ahead of NO: rows(1, 0, 8)", cut, x -> x.rows(1, 0, 8), -2, 0);
    }

    // ---- promise 11

    private static void entersAnswersWhereOneWas() {
        Edge.says(11, "A GUEST GETS IN again: where one was.");
        GondolaTold x = Edge.allCanals();
        x.rower(0, 1);
        x.guest(0, 40);
        for (int p = 1; p < 8; p++) {
            x.rows(0, 0, p);
            Edge.due("enters(0)", x.enters(0), p);
            Edge.due("of(0, 4)", x.of(0, 4), 0);
            Edge.due("of(0, 5)", x.of(0, 5), 0);
        }
        Edge.due("what was told stays", x.of(0, 2), 7);
    }

    private static void entersIsBad() {
        Edge.says(11, "BAD;");
        Edge.range("enters(value)", Edge::rich, (x, v) -> x.enters(v), 0, 2, -2);
        Edge.due("no guest at all", new GondolaTold().enters(0), -2);
    }

    private static void entersIsNo() {
        Edge.says(11, "NO: one is at PLACE 0.");
        Edge.Make at0 = () -> {
            GondolaTold x = Edge.rich();
            x.enters(0);
            x.rows(1, 0, 0);
            return x;
        };
        Edge.refuses("enters(0): just got in", at0, x -> x.enters(0), -3, 1);
        Edge.refuses("enters(1): rowed back, strokes are gone", at0, x -> x.enters(1), -3, 1);
        Edge.due("strokes are gone", at0.make().of(1, 5) > 0 ? 1 : 0, 1);
    }

    // ---- promise 12 and UNDO

    private static void undoGivesBack() {
        Edge.says(0, "UNDO: KNOWS, HURT, PLACES, STROKES gone of GUESTS as ahead of the last that was ROWED, GOT IN");
        GondolaTold x = Edge.rich();
        long[] then = new long[4];
        then[0] = x.digest();
        x.rows(0, 0, 7);
        then[1] = x.digest();
        x.enters(0);
        then[2] = x.digest();
        x.rows(1, 1, 7);
        then[3] = x.digest();
        x.enters(2);
        for (int i = 3; i >= 0; i--) {
            x.undo();
            Edge.due("digest() ahead of step " + i, x.digest(), then[i]);
        }
    }

    private static void undoLeavesTheRest() {
        Edge.says(0, "UNDO: KNOWS, HURT, PLACES, STROKES gone of GUESTS");
        GondolaTold x = Edge.rich();
        x.rows(0, 0, 3);
        x.seen(0, 1, 1, 1);
        x.note(0, 9, 1, 1, 1, 1);
        x.mark(0, 1, 1, 1, 1);
        x.type('a');
        x.image(1);
        x.mean(0, 0, 0);
        long above = x.part(0);
        Edge.due("undo()", x.undo(), 4);
        Edge.due("SEEN", x.count(6), 3);
        Edge.due("NOTES", x.count(7), 2);
        Edge.due("MARKS", x.count(8), 2);
        Edge.due("the text", x.count(10), 18);
        Edge.due("the fraction", x.part(0), above);
        Edge.due("the place", x.of(0, 4), 2);
        x.forget(0);
        Edge.due("undo()", x.undo(), 3);
        Edge.due("what was forgotten stays so", x.count(6), 0);
        x.from(1);
        Edge.due("the image keeps what may be undone", x.count(9), 5);
    }

    private static void undoOfEightAtMost() {
        Edge.says(0, "(8 at most;");
        GondolaTold x = Edge.water("water 6;canal 0 1 2;rower 0 1;guest 0 40;");
        for (int i = 1; i <= 10; i++) {
            x.rows(0, 0, i % 2);
            Edge.due("count(9) behind " + i, x.count(9), Math.min(8, i));
        }
        for (int left = 7; left >= 0; left--) {
            Edge.due("undo()", x.undo(), left);
            Edge.due("of(0, 2)", x.of(0, 2), 2 + left);
            Edge.due("of(0, 3)", x.of(0, 3), 2 + left);
            Edge.due("of(0, 4)", x.of(0, 4), left % 2);
            Edge.due("of(0, 5)", x.of(0, 5), 2 * (2 + left));
        }
        Edge.due("undo()", x.undo(), -3);
        Edge.due("the two first ones stay", x.of(0, 2), 2);
    }

    private static void undoOfEightOfBothKinds() {
        Edge.says(0, "8 at most");
        GondolaTold x = Edge.water("water 6;canal 0 1 2;rower 0 1;guest 0 40;");
        for (int i = 0; i < 5; i++) {
            x.rows(0, 0, 1);
            x.enters(0);
        }
        Edge.due("count(9)", x.count(9), 8);
        int[] places = {1, 0, 1, 0, 1, 0, 1, 0};
        for (int i = 0; i < 8; i++) {
            Edge.due("undo()", x.undo(), 7 - i);
            Edge.due("of(0, 4)", x.of(0, 4), places[i]);
        }
        Edge.due("undo()", x.undo(), -3);
        Edge.due("of(0, 2)", x.of(0, 2), 1);
    }

    private static void nothingToUndoBehindAChange() {
        Edge.says(0, "behind a DARK, a CANAL told, a ROWER, a GUEST that comes none may be).");
        Edge.Act[] changes = {x -> x.dark(0, 1), x -> x.dark(0, 0), x -> x.canal(0, 1, 9), x -> x.canal(0, 1, 2),
            x -> x.canal(0, 1, 0), x -> x.rower(0, 1), x -> x.guest(0, 1), x -> x.water(1), x -> x.read()};
        for (Edge.Act change : changes) {
            GondolaTold x = Edge.rich();
            Edge.due("there was something", x.count(9), 4);
            change.on(x);
            Edge.due("count(9)", x.count(9), 0);
            Edge.due("undo()", x.undo(), -3);
        }
    }

    private static void undoStaysBehindARefusal() {
        Edge.says(0, "behind a DARK, a CANAL told, a ROWER, a GUEST that comes");
        Edge.Act[] refused = {x -> x.dark(0, 10), x -> x.dark(8, 1), x -> x.canal(0, 0, 1), x -> x.canal(0, 1, 10),
            x -> x.rower(0, 10), x -> x.rower(0, 1), x -> x.guest(0, 41), x -> x.guest(0, 1), x -> x.water(10),
            x -> x.enters(9), x -> x.rows(0, 0, 9)};
        for (int i = 0; i < refused.length; i++) {
            GondolaTold x = Edge.full();
            refused[i].on(x);
            Edge.due("count(9) behind refusal " + i, x.count(9), 8);
            Edge.due("undo()", x.undo(), 7);
        }
    }

    private static void undoAnswersHowManyMore() {
        Edge.says(12, "UNDO: how many more may be.");
        GondolaTold x = Edge.full();
        for (int left = 7; left >= 0; left--) {
            Edge.due("undo()", x.undo(), left);
            Edge.due("count(9)", x.count(9), left);
        }
    }

    private static void undoIsNo() {
        Edge.says(12, "NO: none may be.");
        Edge.refuses("undo(): nothing yet", GondolaTold::new, GondolaTold::undo, -3, 1);
        Edge.refuses("undo(): all undone", () -> {
            GondolaTold x = Edge.rich();
            for (int i = 0; i < 4; i++) {
                x.undo();
            }
            return x;
        }, GondolaTold::undo, -3, 1);
    }

    // ---- promises 13 to 16

    private static void ofTellsOfAGuest() {
        Edge.says(13, "Of a GUEST: KIND (0), HOPE (1), KNOWS (2), HURT (3), PLACE (4), STROKES gone (5).");
        GondolaTold x = Edge.water("water 2;canal 0 3 4;rower 0 5;guest 1 18;guest 0 2;guest 2 3;guest 4 9;row 0 0 3;row 3 0 3;");
        int[][] want = {{1, 18, 5, 10, 3, 4}, {0, 2, 0, 0, 0, 0}, {2, 3, 0, 0, 0, 0}, {4, 9, 5, 13, 3, 4}};
        for (int g = 0; g < 4; g++) {
            for (int what = 0; what < 6; what++) {
                Edge.due("of(" + g + ", " + what + ")", x.of(g, what), want[g][what]);
            }
        }
    }

    private static void ofIsBad() {
        Edge.says(13, "BAD.");
        Edge.range("of(value, 0)", Edge::rich, (x, v) -> x.of(v, 0), 0, 2, -2);
        Edge.range("of(0, value)", Edge::rich, (x, v) -> x.of(0, v), 0, 5, -2);
    }

    private static void whoTellsOfARower() {
        Edge.says(14, "Of a ROWER: KIND (0), TONGUE (1).");
        GondolaTold x = Edge.water("water 2;rower 4 5;rower 0 9;rower 5 0;");
        int[][] want = {{4, 5}, {0, 9}, {5, 0}};
        for (int r = 0; r < 3; r++) {
            for (int what = 0; what < 2; what++) {
                Edge.due("who(" + r + ", " + what + ")", x.who(r, what), want[r][what]);
            }
        }
    }

    private static void whoIsBad() {
        Edge.says(14, "BAD.");
        Edge.range("who(value, 0)", Edge::rich, (x, v) -> x.who(v, 0), 0, 1, -2);
        Edge.range("who(0, value)", Edge::rich, (x, v) -> x.who(0, v), 0, 1, -2);
    }

    private static void aboutTellsOfAPlace() {
        Edge.says(15, "Of a PLACE: how DARK (0), PLACES to which there are CANALS (1; bits), GUESTS there (2; bits).");
        GondolaTold x = Edge.water("water 2;dark 7 8;canal 0 7 4;canal 7 6 1;rower 0 5;guest 1 18;guest 4 9;guest 0 1;guest 0 1;"
                + "row 0 0 7;row 3 0 7;");
        int[][] want = {{2, 128, 6}, {2, 0, 0}, {2, 0, 0}, {2, 0, 0}, {2, 0, 0}, {2, 0, 0}, {2, 128, 0}, {8, 65, 9}};
        for (int p = 0; p < 8; p++) {
            for (int what = 0; what < 3; what++) {
                Edge.due("about(" + p + ", " + what + ")", x.about(p, what), want[p][what]);
            }
        }
    }

    private static void aboutIsBad() {
        Edge.says(15, "BAD.");
        Edge.range("about(value, 0)", Edge::rich, (x, v) -> x.about(v, 0), 0, 7, -2);
        Edge.range("about(0, value)", Edge::rich, (x, v) -> x.about(0, v), 0, 2, -2);
    }

    private static void strokesOfACanal() {
        Edge.says(16, "STROKES of the CANAL between two PLACES (0: none, alike ones).");
        GondolaTold x = Edge.water("water 2;canal 0 7 1;canal 6 7 9;");
        Edge.due("strokes(0, 7)", x.strokes(0, 7), 1);
        Edge.due("strokes(7, 0)", x.strokes(7, 0), 1);
        Edge.due("strokes(7, 6)", x.strokes(7, 6), 9);
        Edge.due("strokes(0, 6): none", x.strokes(0, 6), 0);
        for (int p = 0; p < 8; p++) {
            Edge.due("alike ones", x.strokes(p, p), 0);
        }
        Edge.due("no refusal", Edge.refused(x), 0);
    }

    private static void strokesIsBad() {
        Edge.says(16, "BAD.");
        Edge.range("strokes(value, 3)", Edge::rich, (x, v) -> x.strokes(v, 3), 0, 7, -2);
        Edge.range("strokes(3, value)", Edge::rich, (x, v) -> x.strokes(3, v), 0, 7, -2);
        Edge.refuses("alike ones that are none", Edge::rich, x -> x.strokes(8, 8), -2, 0);
        Edge.refuses("alike ones that are none", Edge::rich, x -> x.strokes(-1, -1), -2, 0);
    }
}
