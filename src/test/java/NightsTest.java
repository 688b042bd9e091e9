/** Promises 10 to 16: who is rowed where, what is undone, what is told of guests, rowers and places. */
public final class NightsTest {
    private static final int MAX = Integer.MAX_VALUE;
    private static final int MIN = Integer.MIN_VALUE;

    public static void main(String[] args) {
        rows();
        rowerKinds();
        guestKinds();
        ceilings();
        enters();
        undo();
        undoDeep();
        of();
        who();
        about();
        strokes();
        Check.end();
    }

    private static void rows() {
        Check.promise(10);
        GondolaTold x = Check.water("water 6;canal 0 1 4;canal 1 7 3;rower 0 5;guest 0 8;");
        Check.due("rows(0, 0, 7): no canal", x.rows(0, 0, 7), -3);
        Check.due("rows(0, 0, 0): where one is", x.rows(0, 0, 0), -3);
        Check.due("rows(0, 0, 1)", x.rows(0, 0, 1), 5);
        Check.due("of(0, 3)", x.of(0, 3), 5);
        Check.due("of(0, 4)", x.of(0, 4), 1);
        Check.due("of(0, 5)", x.of(0, 5), 4);
        Check.due("rows(0, 0, 7): no more than is left", x.rows(0, 0, 7), 8);
        Check.due("of(0, 3)", x.of(0, 3), 8);
        Check.due("of(0, 5)", x.of(0, 5), 7);
        Check.due("rows(0, 0, 1): at the Salute", x.rows(0, 0, 1), -3);
        int[][] wrong = {{-1, 0, 1}, {1, 0, 1}, {0, -1, 1}, {0, 1, 1}, {0, 0, -1}, {0, 0, 8}, {MAX, MAX, MAX},
            {MIN, MIN, MIN}};
        for (int[] w : wrong) {
            Check.due("rows(" + w[0] + ", " + w[1] + ", " + w[2] + ")", x.rows(w[0], w[1], w[2]), -2);
        }
        Check.due("status(0)", x.status(0), wrong.length);
        Check.due("status(1)", x.status(1), 3);
    }

    private static int rowedOnce(int rowerKind, int tongue, int guestKind, int hope, int dark, int s, int what) {
        GondolaTold x = new GondolaTold();
        x.dark(1, dark);
        x.canal(0, 1, s);
        x.rower(rowerKind, tongue);
        x.guest(guestKind, hope);
        x.rows(0, 0, 1);
        return x.of(0, what);
    }

    private static void rowerKinds() {
        Check.promise(10);
        // KIND, TONGUE, DARK, STROKES gone, what is told
        int[][] told = {
            {0, 5, 0, 1, 5}, {0, 0, 9, 9, 0}, {1, 5, 0, 1, 8}, {1, 0, 9, 9, 3},
            {2, 5, 3, 1, 0}, {2, 5, 4, 1, 5}, {3, 5, 3, 5, 0}, {3, 5, 3, 6, 1}, {3, 5, 4, 5, 5}, {3, 5, 4, 6, 6},
            {4, 5, 4, 9, 0}, {5, 5, 0, 2, 8}, {5, 5, 0, 1, 6}, {5, 0, 0, 9, 1}, {5, 0, 0, 8, 3},
        };
        for (int[] t : told) {
            Check.due("rower kind " + t[0], rowedOnce(t[0], t[1], 0, 40, t[2], t[3], 2), t[4]);
        }
        // LATE: 10 STROKES are enough; in the light only the winding ways tell.
        GondolaTold x = Check.water("water 4;canal 0 1 9;canal 1 2 1;canal 2 3 2;dark 3 3;rower 4 5;guest 0 40;");
        Check.due("rows(0, 0, 1)", x.rows(0, 0, 1), 0);
        Check.due("rows(0, 0, 2)", x.rows(0, 0, 2), 6);
        Check.due("rows(0, 0, 3)", x.rows(0, 0, 3), 8);
    }

    private static void guestKinds() {
        Check.promise(10);
        // KIND, HOPE, told, DARK, how it hurts
        int[][] hurt = {
            {0, 40, 5, 0, 5}, {1, 40, 5, 4, 10}, {1, 40, 5, 5, 5}, {2, 40, 5, 0, 15}, {2, 7, 5, 9, 6},
            {2, 40, 0, 0, 0}, {3, 40, 5, 4, 13}, {3, 40, 5, 5, 8}, {3, 40, 0, 4, 0}, {4, 40, 2, 4, 0},
            {4, 40, 3, 4, 9}, {4, 40, 3, 5, 6}, {5, 40, 5, 0, 9}, {5, 8, 5, 0, 7}, {5, 40, 0, 0, 0}, {4, 2, 9, 0, 0},
        };
        for (int[] t : hurt) {
            Check.due("guest kind " + t[0], rowedOnce(0, t[2], t[0], t[1], t[3], 1, 3), t[4]);
        }
        // SOFT: what is left to know counts as it was ahead of the telling.
        GondolaTold x = Check.water("water 4;canal 0 1 1;rower 0 5;guest 2 20;");
        x.rows(0, 0, 1);
        Check.due("of(0, 3)", x.of(0, 3), 10);
        x.rows(0, 0, 0);
        Check.due("of(0, 3)", x.of(0, 3), 18);
    }

    private static void ceilings() {
        Check.promise(10);
        GondolaTold x = Check.water("water 4;canal 0 1 9;rower 0 0;guest 0 9;");
        for (int i = 1; i <= 111; i++) {
            x.rows(0, 0, i % 2);
            Check.due("of(0, 5)", x.of(0, 5), 9 * i);
        }
        Check.due("rows(0, 0, 0)", x.rows(0, 0, 0), 0);
        Check.due("of(0, 5): 999 at most", x.of(0, 5), 999);
    }

    private static void enters() {
        Check.promise(11);
        GondolaTold x = Check.water("water 6;canal 0 1 4;canal 1 7 3;rower 0 5;guest 0 18;");
        Check.due("enters(-1)", x.enters(-1), -2);
        Check.due("enters(1)", x.enters(1), -2);
        Check.due("enters(0): at place 0", x.enters(0), -3);
        x.rows(0, 0, 1);
        Check.due("enters(0)", x.enters(0), 1);
        int[] then = {0, 18, 5, 5, 0, 0};
        for (int what = 0; what < 6; what++) {
            Check.due("of(0, " + what + ")", x.of(0, what), then[what]);
        }
        x.rows(0, 0, 1);
        x.rows(0, 0, 7);
        Check.due("enters(0)", x.enters(0), 7);
        Check.due("of(0, 5)", x.of(0, 5), 0);
        x.rows(0, 0, 1);
        x.rows(0, 0, 0);
        Check.due("enters(0): rowed back to place 0", x.enters(0), -3);
        Check.due("of(0, 5)", x.of(0, 5), 8);
    }

    private static void undo() {
        Check.promise(12);
        GondolaTold x = Check.water("water 6;canal 0 1 4;canal 1 7 3;rower 0 5;guest 1 18;guest 0 9;");
        Check.due("undo()", x.undo(), -3);
        long first = x.digest();
        x.rows(0, 0, 1);
        long second = x.digest();
        x.rows(1, 0, 1);
        long third = x.digest();
        x.enters(0);
        x.enters(0);
        x.rows(0, 0, 7);
        Check.due("count(9): refused ones do not count", x.count(9), 3);
        Check.due("undo()", x.undo(), 2);
        Check.due("digest()", x.digest(), third);
        Check.due("undo()", x.undo(), 1);
        Check.due("digest()", x.digest(), second);
        Check.due("undo()", x.undo(), 0);
        Check.due("digest()", x.digest(), first);
        Check.due("undo()", x.undo(), -3);
        Check.due("status(1)", x.status(1), 4);
        x.rows(0, 0, 1);
        x.seen(0, 1, 1, 1);
        Check.due("undo()", x.undo(), 0);
        Check.due("what was seen stays", x.count(6), 1);
    }

    private static void undoDeep() {
        Check.promise(12);
        GondolaTold x = Check.water("water 6;canal 0 1 1;rower 0 1;guest 0 40;");
        for (int i = 1; i <= 11; i++) {
            x.rows(0, 0, i % 2);
            Check.due("count(9)", x.count(9), Math.min(i, 8));
        }
        for (int left = 7; left >= 0; left--) {
            Check.due("undo()", x.undo(), left);
            Check.due("of(0, 2)", x.of(0, 2), 3 + left);
            Check.due("of(0, 4)", x.of(0, 4), (3 + left) % 2);
        }
        Check.due("undo()", x.undo(), -3);
    }

    private static void of() {
        Check.promise(13);
        GondolaTold x = Check.water("water 2;canal 0 3 4;rower 0 5;guest 1 18;guest 4 9;row 0 0 3;");
        int[] first = {1, 18, 5, 10, 3, 4};
        for (int what = 0; what < 6; what++) {
            Check.due("of(0, " + what + ")", x.of(0, what), first[what]);
        }
        Check.due("of(1, 0)", x.of(1, 0), 4);
        Check.due("of(0, -1)", x.of(0, -1), -2);
        Check.due("of(0, 6)", x.of(0, 6), -2);
        Check.due("of(2, 0)", x.of(2, 0), -2);
        Check.due("of(-1, 0)", x.of(-1, 0), -2);
        Check.due("of(MAX, MIN)", x.of(MAX, MIN), -2);
    }

    private static void who() {
        Check.promise(14);
        GondolaTold x = Check.water("water 2;rower 4 5;rower 2 9;");
        Check.due("who(0, 0)", x.who(0, 0), 4);
        Check.due("who(0, 1)", x.who(0, 1), 5);
        Check.due("who(1, 0)", x.who(1, 0), 2);
        Check.due("who(1, 1)", x.who(1, 1), 9);
        Check.due("who(2, 0)", x.who(2, 0), -2);
        Check.due("who(-1, 0)", x.who(-1, 0), -2);
        Check.due("who(0, 2)", x.who(0, 2), -2);
        Check.due("who(0, -1)", x.who(0, -1), -2);
    }

    private static void about() {
        Check.promise(15);
        GondolaTold x = Check.water("water 2;dark 3 8;canal 0 3 4;canal 3 7 1;canal 3 5 1;canal 3 5 0;rower 0 5;"
                + "guest 1 18;guest 4 9;guest 0 1;row 0 0 3;row 2 0 3;");
        Check.due("about(3, 0)", x.about(3, 0), 8);
        Check.due("about(3, 1)", x.about(3, 1), 1 + 128);
        Check.due("about(3, 2)", x.about(3, 2), 1 + 4);
        Check.due("about(0, 2)", x.about(0, 2), 2);
        Check.due("about(7, 1)", x.about(7, 1), 8);
        Check.due("about(5, 1)", x.about(5, 1), 0);
        Check.due("about(8, 0)", x.about(8, 0), -2);
        Check.due("about(-1, 0)", x.about(-1, 0), -2);
        Check.due("about(0, 3)", x.about(0, 3), -2);
        Check.due("about(0, -1)", x.about(0, -1), -2);
    }

    private static void strokes() {
        Check.promise(16);
        GondolaTold x = Check.water("water 2;canal 0 3 4;canal 7 3 1;");
        Check.due("strokes(0, 3)", x.strokes(0, 3), 4);
        Check.due("strokes(3, 0)", x.strokes(3, 0), 4);
        Check.due("strokes(3, 7)", x.strokes(3, 7), 1);
        Check.due("strokes(0, 7)", x.strokes(0, 7), 0);
        Check.due("strokes(3, 3)", x.strokes(3, 3), 0);
        Check.due("strokes(8, 3)", x.strokes(8, 3), -2);
        Check.due("strokes(3, 8)", x.strokes(3, 8), -2);
        Check.due("strokes(-1, 3)", x.strokes(-1, 3), -2);
        Check.due("strokes(3, -1)", x.strokes(3, -1), -2);
    }
}
