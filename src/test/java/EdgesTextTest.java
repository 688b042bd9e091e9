/** A water told by a text: what each item, each token and each FAULT is, sentence by sentence. */
public final class EdgesTextTest {
    public static void main(String[] args) throws Exception {
        Edge.all(EdgesTextTest.class);
    }

    /** The text is read; so many items. */
    private static GondolaTold reads(String text, int items) {
        GondolaTold x = new GondolaTold();
        Edge.due("read '" + text + "'", Edge.read(x, text), items);
        return x;
    }

    /** The text is refused at that place, and nothing is changed by it. */
    private static void fault(String text, int place) {
        Edge.leaves("read '" + text + "'", () -> {
            GondolaTold x = Edge.rich();
            x.clear();
            Edge.type(x, text);
            return x;
        }, GondolaTold::read, -10 - place);
    }

    private static String blanks(int n) {
        return " ".repeat(n);
    }

    // ---- items

    private static void aTextHas150Bytes() {
        Edge.says(0, "THE WATER is told by a TEXT (150 bytes at most)");
        String text = "water 4;" + blanks(150 - 8 - 9) + "dark 6 1;";
        GondolaTold x = reads(text, 2);
        Edge.due("count(10)", x.count(10), 150);
        Edge.due("the last item stands", x.about(6, 0), 1);
        Edge.due("one more", x.type(';'), -4);
        Edge.due("it is read as it was", x.read(), 2);
        fault("water 4;" + blanks(150 - 8 - 8) + "dark 6 1", 150);
        fault("water 4;" + blanks(141) + "x", 149);
    }

    private static void itemsAreEnded() {
        Edge.says(0, "of ITEMS, each ended by ; :");
        reads("water 4;", 1);
        reads("water 4;dark 1 2;", 2);
        reads("water 4;dark 1 2;dark 1 3;canal 0 1 2;rower 0 1;guest 0 1;row 0 0 1;", 7);
        fault("water 4", 7);
        fault("water 4 dark 1 2;", 8);
        fault("water 4;dark 1 2", 16);
        fault("water 4;;", 8);
        fault("water 4;dark 1 2;;", 17);
        fault(";", 0);
    }

    /** A water and 15 items of 9 bytes are 143 bytes. */
    private static void asManyItemsAsFit() {
        Edge.says(0, "of ITEMS");
        StringBuilder text = new StringBuilder("water 4;");
        for (int i = 0; i < 15; i++) {
            text.append("dark ").append(i % 8).append(' ').append(9 - i % 8).append(';');
        }
        GondolaTold x = reads(text.toString(), 16);
        for (int p = 0; p < 8; p++) {
            Edge.due("about(" + p + ", 0)", x.about(p, 0), 9 - p);
        }
    }

    private static void waterItem() {
        Edge.says(0, "water D (all PLACES are so DARK; once, first of all)");
        for (int d = 0; d <= 9; d += 9) {
            GondolaTold x = reads("water " + d + ";", 1);
            for (int p = 0; p < 8; p++) {
                Edge.due("about(" + p + ", 0)", x.about(p, 0), d);
            }
        }
        fault("water 10;", 6);
        fault("water 99;", 6);
        fault("water 4;water 4;", 8);
        fault("water 4;dark 1 2;water 4;", 17);
        fault("dark 1 2;water 4;", 0);
    }

    private static void darkItem() {
        Edge.says(0, "dark p D;");
        GondolaTold x = reads("water 4;dark 0 0;dark 7 9;", 3);
        Edge.due("about(0, 0)", x.about(0, 0), 0);
        Edge.due("about(7, 0)", x.about(7, 0), 9);
        Edge.due("about(1, 0)", x.about(1, 0), 4);
        fault("water 4;dark 8 2;", 13);
        fault("water 4;dark 7 10;", 15);
        fault("water 4;dark 7;", 14);
        fault("water 4;dark;", 12);
        fault("water 4;dark 7 9 1;", 17);
    }

    private static void canalItem() {
        Edge.says(0, "canal a b s (s 0 .. 9);");
        GondolaTold x = reads("water 4;canal 0 7 1;canal 7 1 9;canal 1 2 3;canal 2 1 0;", 5);
        Edge.due("strokes(7, 0)", x.strokes(7, 0), 1);
        Edge.due("strokes(1, 7)", x.strokes(1, 7), 9);
        Edge.due("strokes(1, 2)", x.strokes(1, 2), 0);
        Edge.due("count(0)", x.count(0), 2);
        fault("water 4;canal 8 7 1;", 14);
        fault("water 4;canal 7 8 1;", 16);
        fault("water 4;canal 7 6 10;", 18);
        fault("water 4;canal 7 6;", 17);
        fault("water 4;canal 7 6 1 1;", 20);
    }

    private static void rowerItem() {
        Edge.says(0, "rower KIND TONGUE;");
        GondolaTold x = reads("water 4;rower 0 9;rower 5 0;rower 3 4;", 4);
        int[][] want = {{0, 9}, {5, 0}, {3, 4}};
        for (int r = 0; r < 3; r++) {
            Edge.due("who(" + r + ", 0)", x.who(r, 0), want[r][0]);
            Edge.due("who(" + r + ", 1)", x.who(r, 1), want[r][1]);
        }
        fault("water 4;rower 6 1;", 14);
        fault("water 4;rower 5 10;", 16);
        fault("water 4;rower 5;", 15);
        fault("water 4;rower 5 1 1;", 18);
    }

    private static void guestItem() {
        Edge.says(0, "guest KIND HOPE;");
        GondolaTold x = reads("water 4;guest 0 40;guest 5 1;guest 1 9;guest 2 10;", 5);
        int[][] want = {{0, 40}, {5, 1}, {1, 9}, {2, 10}};
        for (int g = 0; g < 4; g++) {
            Edge.due("of(" + g + ", 0)", x.of(g, 0), want[g][0]);
            Edge.due("of(" + g + ", 1)", x.of(g, 1), want[g][1]);
            Edge.due("of(" + g + ", 4)", x.of(g, 2) + x.of(g, 3) + x.of(g, 4) + x.of(g, 5), 0);
        }
        fault("water 4;guest 6 1;", 14);
        fault("water 4;guest 5 0;", 16);
        fault("water 4;guest 5 00;", 16);
        fault("water 4;guest 5 41;", 16);
        fault("water 4;guest 5;", 15);
        fault("water 4;guest 5 1 1;", 18);
    }

    private static void rowItem() {
        Edge.says(0, "row g r q.");
        GondolaTold x = reads("water 4;canal 0 7 9;rower 0 1;rower 0 2;rower 0 3;guest 1 9;guest 0 9;guest 0 9;guest 0 2;"
                + "row 0 0 7;row 3 2 7;", 11);
        int[][] want = {{1, 9, 1, 2, 7, 9}, {0, 9, 0, 0, 0, 0}, {0, 9, 0, 0, 0, 0}, {0, 2, 2, 2, 7, 9}};
        for (int g = 0; g < 4; g++) {
            for (int what = 0; what < 6; what++) {
                Edge.due("of(" + g + ", " + what + ")", x.of(g, what), want[g][what]);
            }
        }
        Edge.due("it may not be undone", x.undo(), -3);
        fault("water 4;canal 0 7 9;rower 0 1;guest 0 9;row 0 0;", 47);
        fault("water 4;canal 0 7 9;rower 0 1;guest 0 9;row 0 0 7 7;", 50);
        fault("water 4;canal 0 7 9;rower 0 1;guest 0 9;rows 0 0 7;", 40);
    }

    // ---- tokens

    private static void wordsAreOfLetters() {
        Edge.says(0, "TOKENS: words of letters a .. z");
        fault("a", 0);
        fault("z", 0);
        fault("water 4;dar` 1 2;", 8);
        fault("water 4;`", 8);
        fault("water 4;{", 8);
        fault("water`4;", 5);
        fault("water{4;", 5);
        fault("WATER 4;", 0);
        fault("Water 4;", 0);
        fault("wateR 4;", 0);
        fault("waterz 4;", 0);
        fault("water 4;darka 1 2;", 8);
        fault("water a;", 6);
        fault("water z;", 6);
    }

    private static void figuresAreNumbers() {
        Edge.says(0, "figures (1 or 2 are one number)");
        GondolaTold x = reads("water 00;dark 1 09;guest 0 10;guest 0 04;", 4);
        Edge.due("about(0, 0)", x.about(0, 0), 0);
        Edge.due("about(1, 0)", x.about(1, 0), 9);
        Edge.due("of(0, 1)", x.of(0, 1), 10);
        Edge.due("of(1, 1)", x.of(1, 1), 4);
        fault("water /;", 6);
        fault("water :;", 6);
        fault("water 4;dark 12;", 13);
        fault("water 4;dark 1 2 ;dark 12 ;", 23);
        fault("4", 0);
    }

    private static void aSignEndsAnItem() {
        Edge.says(0, ", ; ;");
        reads("water 4 ;", 1);
        reads("water 4   ;   ", 1);
        fault("water ;", 6);
        fault("water 4:", 7);
        fault("water 4<", 7);
        fault("water; 4;", 5);
    }

    /** A blank is needed only where two tokens would run into one. */
    private static void blanksAreBetween() {
        Edge.says(0, "blanks (32) between.");
        reads("  water  4  ;  dark  1  2  ;  ", 2);
        reads("water4;dark1 2;", 2);
        fault("water 4;dark 1" + (char) 31 + "2;", 14);
        fault("water 4;dark 1!2;", 14);
        fault("water\t4;", 5);
        fault("water\n4;", 5);
        fault("water 4;\n", 8);
        fault("wa ter 4;", 0);
        fault("water 4;dark 1 2 3;", 17);
    }

    // ---- faults

    private static void theFaultIsTheFirstByteOfTheFirstToken() {
        Edge.says(0, "FAULT: the place of the first byte of the first TOKEN that can not stand there");
        fault("x", 0);
        fault("   x", 3);
        fault("water 4;   dark   8   99;  x", 18);
        fault("water 4;dark 1   99;x", 17);
        fault("water    77;", 9);
        fault("water 4;  nothing 4", 10);
    }

    private static void aWordThatIsNone() {
        Edge.says(0, "(a word that is none,");
        String[] words = {"wate", "waters", "dar", "darks", "cana", "canals", "rowe", "rowers", "gues", "guests", "ro", "rows",
            "bark", "dank", "danal", "cower", "gueet", "rox", "w", "enters"};
        for (String word : words) {
            fault("water 4;" + word + " 1 2 3;", 8);
            fault(word, 0);
        }
    }

    private static void waterAgain() {
        Edge.says(0, "water again,");
        fault("water 4;water 4;", 8);
        fault("water 4; water", 9);
        fault("water 4;dark 1 2;water 4;", 17);
    }

    private static void anythingAheadOfIt() {
        Edge.says(0, "anything ahead of it,");
        String[] items = {"dark 1 2;", "canal 0 1 1;", "rower 0 1;", "guest 0 1;", "row 0 0 0;", ";", "4;", "#"};
        for (String item : items) {
            fault(item + "water 4;", 0);
            fault(" " + item + "water 4;", 1);
        }
    }

    private static void aFourthRower() {
        Edge.says(0, "a 4th rower,");
        reads("water 4;rower 0 1;rower 0 1;rower 0 1;", 4);
        fault("water 4;rower 0 1;rower 0 1;rower 0 1;rower 0 1;", 38);
        fault("water 4;rower 0 1;rower 0 1;rower 0 1; rower", 39);
        fault("water 4;rower 0 1;rower 0 1;rower 0 1;rower 9 99;", 38);
    }

    private static void aFifthGuest() {
        Edge.says(0, "a 5th guest at its word,");
        reads("water 4;guest 0 1;guest 0 1;guest 0 1;guest 0 1;", 5);
        fault("water 4;guest 0 1;guest 0 1;guest 0 1;guest 0 1;guest 0 1;", 48);
        fault("water 4;guest 0 1;guest 0 1;guest 0 1;guest 0 1; guest", 49);
        fault("water 4;guest 0 1;guest 0 1;guest 0 1;guest 0 1;guest 9 99;", 48);
    }

    private static void threeFigures() {
        Edge.says(0, "a run of three figures or more (at its first one),");
        fault("water 004;", 6);
        fault("water 400;", 6);
        fault("water 0000000000000000000004;", 6);
        fault("water 4;dark 001 2;", 13);
        fault("water 4;dark 1 002;", 15);
        fault("water 4;guest 0 040;", 16);
        fault("water 4;guest 0 4294967297;", 16);
        fault("water 4;dark 1 2 333;", 17);
        fault("water 4;333;", 8);
    }

    private static void aNumberNotAsTold() {
        Edge.says(0, "a number not as told,");
        fault("water 10;", 6);
        fault("water 4;dark 8 0;", 13);
        fault("water 4;dark 0 10;", 15);
        fault("water 4;canal 8 0 1;", 14);
        fault("water 4;canal 0 8 1;", 16);
        fault("water 4;canal 0 1 10;", 18);
        fault("water 4;rower 6 0;", 14);
        fault("water 4;rower 0 10;", 16);
        fault("water 4;guest 6 1;", 14);
        fault("water 4;guest 0 0;", 16);
        fault("water 4;guest 0 41;", 16);
        fault("water 4;canal 0 7 9;rower 0 1;guest 0 9;row 0 0 8;", 48);
        fault("water 4;canal 0 1 9;rower 0 1;guest 0 9;row 0 0 8;", 48);
        fault("water 4;canal 0 7 9;rower 0 1;guest 0 9;row 0 0 99;", 48);
    }

    private static void aNumberFarFromWhatIsTold() {
        Edge.says(0, "a number not as told");
        for (int n = 41; n <= 99; n += 29) {
            fault("water " + n + ";", 6);
            fault("water 4;dark " + n + " 0;", 13);
            fault("water 4;dark 0 " + n + ";", 15);
            fault("water 4;canal " + n + " 0 1;", 14);
            fault("water 4;canal 0 " + n + " 1;", 16);
            fault("water 4;canal 0 1 " + n + ";", 18);
            fault("water 4;rower " + n + " 0;", 14);
            fault("water 4;rower 0 " + n + ";", 16);
            fault("water 4;guest " + n + " 1;", 14);
            fault("water 4;guest 0 " + n + ";", 16);
            fault("water 4;canal 0 7 9;rower 0 1;guest 0 9;row " + n + " 0 7;", 44);
            fault("water 4;canal 0 7 9;rower 0 1;guest 0 9;row 0 " + n + " 7;", 46);
            fault("water 4;canal 0 7 9;rower 0 1;guest 0 9;row 0 0 " + n + ";", 48);
        }
    }

    private static void alikePlaces() {
        Edge.says(0, "also b being a,");
        for (int p = 0; p < 8; p++) {
            fault("water 4;canal " + p + " " + p + " 1;", 16);
            fault("water 4;canal " + p + " 0" + p + " 0;", 16);
        }
    }

    private static void oneThatIsNotThereYet() {
        Edge.says(0, "one that is not there yet,");
        fault("water 4;canal 0 1 1;rower 0 1;row 0 0 1;guest 0 9;", 34);
        fault("water 4;canal 0 1 1;guest 0 9;row 0 0 1;rower 0 1;", 36);
        fault("water 4;canal 0 1 1;guest 0 9;rower 0 1;row 1 0 1;", 44);
        fault("water 4;canal 0 1 1;guest 0 9;rower 0 1;row 0 1 1;", 46);
        fault("water 4;canal 0 1 1;guest 0 9;rower 0 1;row 4 3 1;", 44);
        fault("water 4;canal 0 1 1;guest 0 9;rower 0 1;row 2 0 1;", 44);
        fault("water 4;canal 0 1 1;guest 0 9;rower 0 1;row 0 2 1;", 46);
        reads("water 4;canal 0 1 1;guest 0 9;guest 0 9;rower 0 1;rower 0 1;row 1 1 1;", 7);
    }

    /** Those who are there now do not count for the text. */
    private static void onlyThoseOfTheTextAreThere() {
        Edge.says(0, "one that is not there yet");
        GondolaTold x = Edge.rich();
        Edge.due("guests there are", x.count(2), 3);
        Edge.due("none in the text", Edge.read(x, "water 4;canal 0 1 1;rower 0 1;row 0 0 1;"), -10 - 34);
        Edge.due("rowers and canals neither", Edge.read(x, "water 4;guest 0 9;row 0 0 1;"), -10 - 24);
        Edge.due("nor full ones", Edge.read(Edge.full(), "water 4;rower 0 1;guest 0 9;"), 3);
        Edge.due("no canals", Edge.read(x, "water 4;rower 0 1;guest 0 9;row 0 0 1;"), -10 - 36);
    }

    private static void whereOneCanNotBeRowed() {
        Edge.says(0, "q to which g CAN not be ROWED,");
        String there = "water 4;canal 0 7 1;canal 1 7 1;rower 0 1;guest 0 9;";
        fault(there + "row 0 0 1;", 60);
        fault(there + "row 0 0 0;", 60);
        fault(there + "row 0 0 7;row 0 0 0;", 70);
        fault(there + "row 0 0 7;row 0 0 1;", 70);
        fault(there + "canal 0 7 0;row 0 0 7;", 72);
        reads(there + "row 0 0 7;", 6);
    }

    private static void aByteThatBeginsNone() {
        Edge.says(0, "a byte that begins none, too);");
        for (int c = 0; c < 128; c++) {
            boolean begins = c == ' ' || c == ';' || c >= '0' && c <= '9' || c >= 'a' && c <= 'z';
            if (!begins) {
                GondolaTold x = new GondolaTold();
                Edge.due("read, byte " + c, Edge.read(x, "water 4;" + (char) c), -18);
                Edge.due("read, byte " + c, Edge.read(x, (char) c + "water 4;"), -10);
                Edge.due("read, byte " + c, Edge.read(x, "water " + (char) c + "4;"), -16);
                Edge.due("read, byte " + c, Edge.read(x, "water" + (char) c + "4;"), -15);
                Edge.due("read, byte " + c, Edge.read(x, "water 4" + (char) c + ";"), -17);
            }
        }
        fault("water 4;-", 8);
        fault("water -4;", 6);
    }

    private static void aTextThatEndsTooEarly() {
        Edge.says(0, "the TEXT's length, if it ends too early (an empty one, too).");
        fault("", 0);
        fault(" ", 1);
        fault("     ", 5);
        fault(blanks(150), 150);
        String text = "water 4;dark 1 2;canal 0 1 3;rower 0 1;guest 0 9;row 0 0 1;";
        for (int n = 0; n <= text.length(); n++) {
            String begun = text.substring(0, n);
            boolean inWord = n > 0 && Character.isLetter(begun.charAt(n - 1)) && !begun.matches("(.*;)?(water|dark|canal|rower|guest|row)");
            boolean whole = begun.endsWith(";");
            if (!inWord && !whole) {
                fault(begun, n);
                fault(begun + "  ", n + 2);
            }
        }
    }

    private static void aWaterTakesThePlaceOfAll() {
        Edge.says(0, "A WATER that is read takes the place of all but");
        GondolaTold x = Edge.rich();
        Edge.due("read()", Edge.read(x, "water 3;"), 1);
        for (int what = 0; what <= 9; what++) {
            Edge.due("count(" + what + ")", x.count(what), 0);
        }
        for (int p = 0; p < 8; p++) {
            Edge.due("about(" + p + ", 0)", x.about(p, 0), 3);
            Edge.due("about(" + p + ", 1)", x.about(p, 1), 0);
            Edge.due("about(" + p + ", 2)", x.about(p, 2), 0);
        }
    }

    private static void whatStaysWhenAWaterIsRead() {
        Edge.says(0, "IMAGES, THE TEXT, THE FRACTION, STATUS");
        GondolaTold x = Edge.rich();
        x.dark(8, 8);
        x.rows(0, 0, 2);
        for (int i = 0; i < 3; i++) {
            x.guest(0, 1);
        }
        long above = x.part(0);
        long below = x.part(1);
        Edge.due("read()", x.read(), 2);
        Edge.due("the text", x.count(10), 17);
        Edge.due("above", x.part(0), above);
        Edge.due("below", x.part(1), below);
        Edge.due("status(0)", x.status(0), 1);
        Edge.due("status(1)", x.status(1), 1);
        Edge.due("status(2)", x.status(2), 2);
        Edge.due("no other image", x.from(1), -3);
        Edge.due("the image", x.from(0), 1);
        Edge.due("as it was", x.of(0, 4), 6);
        Edge.due("with what may be undone", x.undo(), 0);
        Edge.due("the text can be read again", x.read(), 2);
    }

    private static void nothingOfBeforeStays() {
        Edge.says(0, "(SEEN ones, NOTES, MARKS none; nothing to undo).");
        GondolaTold x = Edge.full();
        Edge.due("what may be undone", x.count(9), 8);
        Edge.due("read()", Edge.read(x, "water 3;canal 0 1 1;rower 0 5;guest 0 30;row 0 0 1;"), 5);
        for (int what = 6; what <= 9; what++) {
            Edge.due("count(" + what + ")", x.count(what), 0);
        }
        Edge.due("undo()", x.undo(), -3);
        Edge.due("tongues(0)", x.tongues(0), 1023);
        Edge.due("is(0)", x.is(0), 63);
        Edge.due("kinds(0)", x.kinds(0), 63);
    }

    // ---- the promises

    private static void typeABehindTheText() {
        Edge.says(7, "A byte (0 .. 127) comes behind THE TEXT: how many it has.");
        Edge.range("type(value)", Edge::rich, (x, v) -> x.type(v), 0, 127, -2);
        GondolaTold x = new GondolaTold();
        Edge.due("the first", x.type(0), 1);
        Edge.due("the second", x.type(127), 2);
        x.clear();
        Edge.type(x, "water 4");
        Edge.due("not ended yet", x.read(), -17);
        Edge.due("the 8th", x.type(';'), 8);
        Edge.due("it came behind", x.read(), 1);
    }

    private static void typeIsBad() {
        Edge.says(7, "BAD;");
        Edge.refuses("type(-1)", Edge::rich, x -> x.type(-1), -2, 0);
        Edge.refuses("type(128)", Edge::rich, x -> x.type(128), -2, 0);
        Edge.refuses("type(256 + 65)", Edge::rich, x -> x.type(321), -2, 0);
    }

    private static void typeIsFull() {
        Edge.says(7, "FULL.");
        GondolaTold x = new GondolaTold();
        for (int n = 1; n <= 150; n++) {
            Edge.due("type(' ')", x.type(' '), n);
        }
        Edge.due("the 151st", x.type(' '), -4);
        Edge.refuses("type(65)", Edge::full, y -> y.type(65), -4, 2);
        Edge.refuses("BAD comes ahead of FULL: type(128)", Edge::full, y -> y.type(128), -2, 0);
        Edge.refuses("BAD comes ahead of FULL: type(-1)", Edge::full, y -> y.type(-1), -2, 0);
    }

    private static void clearEmptiesTheText() {
        Edge.says(8, "THE TEXT is empty: how many it had.");
        GondolaTold x = new GondolaTold();
        Edge.due("none", x.clear(), 0);
        x.type('a');
        Edge.due("one", x.clear(), 1);
        Edge.due("none again", x.clear(), 0);
        Edge.due("an empty one", x.read(), -10);
        GondolaTold y = Edge.full();
        Edge.due("as many as can be", y.clear(), 150);
        Edge.due("count(10)", y.count(10), 0);
        Edge.due("there is room", y.type('a'), 1);
        Edge.due("the rest stays", y.count(9), 8);
    }

    private static void readAnswersItems() {
        Edge.says(9, "THE WATER is read: how many ITEMS.");
        reads("water 4;", 1);
        reads("water 4;dark 1 1;dark 1 1;dark 1 1;dark 1 1;dark 1 1;", 6);
        GondolaTold x = reads("water 4;rower 0 1;", 2);
        Edge.due("as often as one likes", x.read(), 2);
        Edge.due("and is made anew each time", x.count(1), 1);
    }

    private static void readAnswersTheFault() {
        Edge.says(9, "-10 less the FAULT: all stays.");
        fault("", 0);
        fault("water 4;rower 0 1;guest 0 1;dark 1 1;canal 0 1 1;row 0 0 1;water", 59);
        fault("water 4;" + blanks(141) + "#", 149);
        fault("water 4;" + blanks(138) + "dark", 150);
    }
}
