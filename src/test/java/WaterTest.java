/** Promises 1 to 9: a new object and the calls that make a water. */
public final class WaterTest {
    private static final int MAX = Integer.MAX_VALUE;
    private static final int MIN = Integer.MIN_VALUE;

    public static void main(String[] args) {
        newObject();
        water();
        dark();
        canal();
        rower();
        guest();
        type();
        clear();
        read();
        faults();
        Check.end();
    }

    private static void newObject() {
        Check.promise(1);
        GondolaTold x = new GondolaTold();
        for (int p = 0; p < 8; p++) {
            Check.due("about(p, 0)", x.about(p, 0), 3);
            Check.due("about(p, 1)", x.about(p, 1), 0);
            Check.due("about(p, 2)", x.about(p, 2), 0);
        }
        for (int what = 0; what <= 10; what++) {
            Check.due("count(what)", x.count(what), 0);
        }
        Check.due("part(0)", x.part(0), 0);
        Check.due("part(1)", x.part(1), 1);
        Check.due("undo()", x.undo(), GondolaTold.NO);
        Check.due("from(0)", x.from(0), GondolaTold.NO);
        Check.due("from(1)", x.from(1), GondolaTold.NO);
    }

    private static void water() {
        Check.promise(2);
        GondolaTold x = Check.water("water 2;canal 0 1 3;rower 0 5;guest 0 20;guest 1 9;row 0 0 1;");
        x.rows(0, 0, 0);
        x.seen(0, 1, 1, 1);
        x.note(0, 1, 1, 1, 1, 1);
        x.mark(0, 1, 1, 1, 1);
        x.image(1);
        Check.due("water(-1)", x.water(-1), -2);
        Check.due("water(10)", x.water(10), -2);
        Check.due("count(2)", x.count(2), 2);
        int bytes = x.count(10);
        Check.due("water(9)", x.water(9), 2);
        for (int p = 0; p < 8; p++) {
            Check.due("about(p, 0)", x.about(p, 0), 9);
            Check.due("about(p, 1)", x.about(p, 1), 0);
        }
        for (int what = 0; what <= 9; what++) {
            Check.due("count(what)", x.count(what), 0);
        }
        Check.due("the text stays", x.count(10), bytes);
        Check.due("status stays", x.status(0), 2);
        Check.due("images stay", x.from(1), 1);
        Check.due("count(2)", x.count(2), 2);
        Check.due("water(0)", x.water(0), 2);
        Check.due("water(0)", x.water(0), 0);
    }

    private static void dark() {
        Check.promise(3);
        GondolaTold x = new GondolaTold();
        Check.due("dark(0, 9)", x.dark(0, 9), 3);
        Check.due("dark(0, 0)", x.dark(0, 0), 9);
        Check.due("dark(7, 4)", x.dark(7, 4), 3);
        Check.due("about(0, 0)", x.about(0, 0), 0);
        Check.due("about(7, 0)", x.about(7, 0), 4);
        Check.due("about(1, 0)", x.about(1, 0), 3);
        int[][] wrong = {{-1, 3}, {8, 3}, {0, -1}, {0, 10}, {MAX, 1}, {1, MIN}};
        for (int[] w : wrong) {
            Check.due("dark(" + w[0] + ", " + w[1] + ")", x.dark(w[0], w[1]), -2);
        }
        Check.due("status(0)", x.status(0), wrong.length);
        GondolaTold y = Check.water("water 2;canal 0 1 3;rower 0 5;guest 0 20;");
        y.rows(0, 0, 1);
        y.dark(0, 10);
        Check.due("a refused one leaves what may be undone", y.count(9), 1);
        y.dark(0, 2);
        Check.due("nothing may be undone behind it", y.count(9), 0);
    }

    private static void canal() {
        Check.promise(4);
        GondolaTold x = new GondolaTold();
        Check.due("canal(0, 7, 9)", x.canal(0, 7, 9), 0);
        Check.due("canal(7, 0, 1)", x.canal(7, 0, 1), 9);
        Check.due("strokes(0, 7)", x.strokes(0, 7), 1);
        Check.due("strokes(7, 0)", x.strokes(7, 0), 1);
        Check.due("canal(7, 0, 0)", x.canal(7, 0, 0), 1);
        Check.due("strokes(0, 7)", x.strokes(0, 7), 0);
        Check.due("count(0)", x.count(0), 0);
        int[][] wrong = {{-1, 3, 1}, {8, 3, 1}, {0, -1, 1}, {0, 8, 1}, {1, 2, -1}, {1, 2, 10}, {3, 3, 1}, {3, 3, 0},
            {MAX, 1, 1}, {1, MIN, 1}};
        for (int[] w : wrong) {
            Check.due("canal(" + w[0] + ", " + w[1] + ", " + w[2] + ")", x.canal(w[0], w[1], w[2]), -2);
        }
        GondolaTold y = Check.water("water 2;canal 0 1 3;rower 0 5;guest 0 20;");
        y.rows(0, 0, 1);
        y.canal(1, 1, 1);
        Check.due("a refused one leaves what may be undone", y.count(9), 1);
        y.canal(0, 1, 3);
        Check.due("nothing may be undone behind it", y.count(9), 0);
    }

    private static void rower() {
        Check.promise(5);
        GondolaTold x = new GondolaTold();
        int[][] wrong = {{-1, 3}, {6, 3}, {0, -1}, {0, 10}, {MAX, MAX}, {MIN, 1}};
        for (int[] w : wrong) {
            Check.due("rower(" + w[0] + ", " + w[1] + ")", x.rower(w[0], w[1]), -2);
        }
        Check.due("rower(0, 0)", x.rower(0, 0), 0);
        Check.due("rower(5, 9)", x.rower(5, 9), 1);
        Check.due("rower(3, 4)", x.rower(3, 4), 2);
        Check.due("rower(3, 4)", x.rower(3, 4), -4);
        Check.due("BAD comes ahead of FULL", x.rower(6, 4), -2);
        Check.due("who(1, 0)", x.who(1, 0), 5);
        Check.due("who(1, 1)", x.who(1, 1), 9);
        Check.due("count(1)", x.count(1), 3);
        GondolaTold y = Check.water("water 2;canal 0 1 3;rower 0 5;guest 0 20;");
        y.rows(0, 0, 1);
        y.rower(0, 10);
        Check.due("a refused one leaves what may be undone", y.count(9), 1);
        y.rower(0, 1);
        Check.due("nothing may be undone behind it", y.count(9), 0);
    }

    private static void guest() {
        Check.promise(6);
        GondolaTold x = new GondolaTold();
        int[][] wrong = {{-1, 3}, {6, 3}, {0, 0}, {0, 41}, {MAX, MAX}, {MIN, 1}};
        for (int[] w : wrong) {
            Check.due("guest(" + w[0] + ", " + w[1] + ")", x.guest(w[0], w[1]), -2);
        }
        Check.due("guest(0, 1)", x.guest(0, 1), 0);
        Check.due("guest(5, 40)", x.guest(5, 40), 1);
        Check.due("guest(3, 4)", x.guest(3, 4), 2);
        Check.due("guest(4, 5)", x.guest(4, 5), 3);
        Check.due("guest(3, 4)", x.guest(3, 4), -4);
        Check.due("BAD comes ahead of FULL", x.guest(3, 0), -2);
        int[] fresh = {5, 40, 0, 0, 0, 0};
        for (int what = 0; what < 6; what++) {
            Check.due("of(1, " + what + ")", x.of(1, what), fresh[what]);
        }
        GondolaTold y = Check.water("water 2;canal 0 1 3;rower 0 5;guest 0 20;");
        y.rows(0, 0, 1);
        y.guest(0, 0);
        Check.due("a refused one leaves what may be undone", y.count(9), 1);
        y.guest(0, 1);
        Check.due("nothing may be undone behind it", y.count(9), 0);
        // One that comes where another one was ahead of a water is a new one.
        y.water(1);
        y.guest(2, 7);
        int[] again = {2, 7, 0, 0, 0, 0};
        for (int what = 0; what < 6; what++) {
            Check.due("of(0, " + what + ")", y.of(0, what), again[what]);
        }
    }

    private static void type() {
        Check.promise(7);
        GondolaTold x = new GondolaTold();
        Check.due("type(-1)", x.type(-1), -2);
        Check.due("type(128)", x.type(128), -2);
        Check.due("type(0)", x.type(0), 1);
        Check.due("type(127)", x.type(127), 2);
        for (int n = 3; n <= 150; n++) {
            Check.due("type(32)", x.type(32), n);
        }
        Check.due("type(32)", x.type(32), -4);
        Check.due("BAD comes ahead of FULL", x.type(128), -2);
        Check.due("count(10)", x.count(10), 150);
        Check.due("status(2)", x.status(2), 1);
    }

    private static void clear() {
        Check.promise(8);
        GondolaTold x = new GondolaTold();
        Check.due("clear()", x.clear(), 0);
        x.type('a');
        x.type('b');
        Check.due("clear()", x.clear(), 2);
        Check.due("clear()", x.clear(), 0);
        Check.due("type('c')", x.type('c'), 1);
    }

    private static void read() {
        Check.promise(9);
        GondolaTold x = new GondolaTold();
        Check.due("a water alone", Check.read(x, "water 5;"), 1);
        Check.due("about(3, 0)", x.about(3, 0), 5);
        Check.due("the text stays", x.count(10), 8);
        String all = "water 7; dark 1 0; canal 0 1 9; canal 1 7 3; rower 1 2; guest 3 40; guest 0 4; row 0 0 1; row 1 0 1;"
                + "row 1 0 7;canal 0 1 0;";
        Check.due("one of each", Check.read(x, all), 11);
        Check.due("about(0, 0)", x.about(0, 0), 7);
        Check.due("about(1, 0)", x.about(1, 0), 0);
        Check.due("strokes(0, 1)", x.strokes(0, 1), 0);
        Check.due("strokes(1, 7)", x.strokes(1, 7), 3);
        Check.due("count(0)", x.count(0), 1);
        Check.due("who(0, 1)", x.who(0, 1), 2);
        // BLUNT of 2 tells 5; VAIN in the light: twice, and 3.
        int[][] guests = {{3, 40, 5, 13, 1, 9}, {0, 4, 4, 4, 7, 12}};
        for (int g = 0; g < 2; g++) {
            for (int what = 0; what < 6; what++) {
                Check.due("of(" + g + ", " + what + ")", x.of(g, what), guests[g][what]);
            }
        }
        Check.due("nothing to undo", x.undo(), -3);
        Check.due("blanks anywhere", Check.read(x, "   water   04  ;  dark 07 9 ;   "), 2);
        Check.due("about(7, 0)", x.about(7, 0), 9);
        Check.due("no blanks where none is needed", Check.read(x, "water4;dark1 2;guest5 40;rower0 0;"), 4);
        x.seen(0, 1, 1, 1);
        x.note(0, 1, 1, 1, 1, 1);
        x.mark(0, 1, 1, 1, 1);
        x.image(0);
        Check.due("it takes the place of all", Check.read(x, "water 1;"), 1);
        for (int what = 0; what <= 9; what++) {
            Check.due("count(" + what + ")", x.count(what), 0);
        }
        Check.due("images stay", x.from(0), 1);
        Check.due("count(8)", x.count(8), 1);
        Check.due("status stays", x.status(1), 1);
        Check.due("a text can be read again", x.read(), 1);
        Check.due("count(8)", x.count(8), 0);
    }

    private static void faults() {
        Check.promise(9);
        Object[][] texts = {
            {"", 0}, {"   ", 3}, {"w", 0}, {"water", 5}, {"water 3", 7}, {"water 3 ", 8}, {"water 10;", 6},
            {"water 3;;", 8}, {";", 0}, {"water;", 5}, {"water 3;water 3;", 8}, {"dark 1 2;", 0}, {" dark 1 2;", 1},
            {"5", 0}, {"Water 3;", 0}, {"waters 3;", 0}, {"wat er 3;", 0}, {"water 003;", 6}, {"water 3 4;", 8},
            {"water\t3;", 5}, {"water 3;#", 8}, {"water -3;", 6}, {"water 3;dark 8 2;", 13}, {"water 3;dark 7 10;", 15},
            {"water 3;dark 35;", 13}, {"water 3;canal 1 1 2;", 16}, {"water 3;canal 8 1 2;", 14},
            {"water 3;canal 1 8 2;", 16}, {"water 3;canal 1 2 10;", 18}, {"water 3;canal 1 2;", 17},
            {"water 3;canal 1 234;", 16}, {"water 3;canal 1 2 3", 19}, {"water 3;rower 6 1;", 14},
            {"water 3;rower 5 10;", 16}, {"water 3;guest 6 1;", 14}, {"water 3;guest 5 0;", 16},
            {"water 3;guest 5 41;", 16}, {"water 3;rower 0 0;rower 0 0;rower 0 0; rower 9 9;", 39},
            {"water 3;guest 0 1;guest 0 1;guest 0 1;guest 0 1;guest", 48}, {"water 3;row 0 0 1;", 12},
            {"water 3;guest 0 9;row 0 0 1;", 24}, {"water 3;guest 0 9;rower 0 9;row 0 0 1;", 36},
            {"water 3;guest 0 9;rower 0 9;canal 0 1 1;row 0 0 0;", 48},
            {"water 3;guest 0 9;rower 0 9;canal 0 1 1;row 0 0 8;", 48},
            {"water 3;guest 0 9;rower 0 9;canal 0 7 1;row 0 0 7;row 0 0 0;", 58}, {"water 3;rows 0 0 0;", 8},
            {"water 3;dark 1 2;rowe 0 0;", 17},
            {"water 3 456;", 8}, {"xater 3;", 0}, {"water 3;bark 1 2;", 8}, {"water 3;dark 1 2#", 16},
            {"water 3;dark 1 #;", 15}, {"water 9;dark 0 9;canal 0 7 9;guest 5 40;rower 5 9;row 0 0 7;dark", 64},
        };
        for (Object[] row : texts) {
            GondolaTold x = new GondolaTold();
            x.guest(1, 2);
            x.dark(5, 6);
            String text = (String) row[0];
            Check.due("read '" + text + "'", Check.read(x, text), -10 - (Integer) row[1]);
            Check.due("all stays: about(5, 0)", x.about(5, 0), 6);
            Check.due("all stays: count(2)", x.count(2), 1);
            Check.due("all stays: count(10)", x.count(10), text.length());
            Check.due("no refusal", x.status(0) + x.status(1) + x.status(2), 0);
        }
    }
}
