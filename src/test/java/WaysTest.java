/** Promises 17 to 22: how far it is, the way, the gentle one, where one knows, who should tell whom. */
public final class WaysTest {
    private static final int MAX = Integer.MAX_VALUE;
    private static final int MIN = Integer.MIN_VALUE;

    public static void main(String[] args) {
        far();
        would();
        way();
        wayAmongLikeOnes();
        wayAllOver();
        gentle();
        where();
        share();
        shareAmongLikeOnes();
        shareThatCanNotBe();
        Check.end();
    }

    private static void far() {
        Check.promise(17);
        GondolaTold x = Check.water("water 1;canal 0 1 9;canal 0 2 2;canal 2 1 3;canal 1 7 5;canal 7 4 1;");
        Check.due("far(0, 1)", x.far(0, 1), 5);
        Check.due("far(1, 0)", x.far(1, 0), 5);
        Check.due("far(0, 7)", x.far(0, 7), 10);
        Check.due("far(7, 0)", x.far(7, 0), 10);
        Check.due("far(0, 4)", x.far(0, 4), 11);
        Check.due("far(3, 3)", x.far(3, 3), 0);
        Check.due("far(0, 3)", x.far(0, 3), -1);
        Check.due("far(3, 0)", x.far(3, 0), -1);
        Check.due("far(8, 0)", x.far(8, 0), -2);
        Check.due("far(0, 8)", x.far(0, 8), -2);
        Check.due("far(-1, 0)", x.far(-1, 0), -2);
        Check.due("far(0, -1)", x.far(0, -1), -2);
        Check.due("status(0)", x.status(0), 4);
        GondolaTold y = new GondolaTold();
        int[] order = {0, 5, 3, 6, 1, 4, 2, 7};
        for (int i = 0; i < 7; i++) {
            y.canal(order[i], order[i + 1], 9);
        }
        Check.due("far(0, 7): all places long", y.far(0, 7), 63);
        Check.due("far(7, 0)", y.far(7, 0), 63);
    }

    private static void would() {
        Check.promise(18);
        GondolaTold x = Check.water("water 6;dark 2 4;canal 0 1 4;canal 0 2 3;canal 0 7 1;rower 0 5;guest 1 8;");
        long before = x.digest();
        Check.due("would(0, 0, 1, 0)", x.would(0, 0, 1, 0), 5);
        Check.due("would(0, 0, 1, 1)", x.would(0, 0, 1, 1), 5);
        Check.due("would(0, 0, 2, 1)", x.would(0, 0, 2, 1), 10);
        Check.due("would(0, 0, 3, 0)", x.would(0, 0, 3, 0), -1);
        Check.due("would(0, 0, 0, 0)", x.would(0, 0, 0, 0), -1);
        int[][] wrong = {{1, 0, 1, 0}, {-1, 0, 1, 0}, {0, 1, 1, 0}, {0, -1, 1, 0}, {0, 0, 8, 0}, {0, 0, -1, 0},
            {0, 0, 1, 2}, {0, 0, 1, -1}, {MAX, MIN, MAX, MIN}};
        for (int[] w : wrong) {
            Check.due("would(" + w[0] + ", ..)", x.would(w[0], w[1], w[2], w[3]), -2);
        }
        Check.due("nothing is changed", x.digest(), before);
        x.rows(0, 0, 1);
        x.rows(0, 0, 0);
        Check.due("would(0, 0, 1, 0): no more than HOPE", x.would(0, 0, 1, 0), 8);
        Check.due("would(0, 0, 1, 1): HURT in all", x.would(0, 0, 1, 1), 8);
        x.rows(0, 0, 7);
        Check.due("would(0, 0, 0, 0): at the Salute", x.would(0, 0, 0, 0), -1);
    }

    private static void dueWay(GondolaTold x, int g, int r, int... want) {
        for (int k = -4; k < want.length - 4; k++) {
            Check.due("way(" + g + ", " + r + ", " + k + ")", x.way(g, r, k), want[k + 4]);
        }
        Check.due("way(" + g + ", " + r + ", behind)", x.way(g, r, want.length - 4), -5);
        Check.due("way(" + g + ", " + r + ", MAX)", x.way(g, r, MAX), -5);
    }

    private static void way() {
        Check.promise(19);
        GondolaTold x = Check.water("water 6;canal 0 7 5;canal 0 1 1;canal 1 7 1;rower 0 5;guest 0 40;");
        long before = x.digest();
        dueWay(x, 0, 0, 10, 10, 2, 2, 1, 7);
        Check.due("nothing is changed", x.digest(), before);
        Check.due("way(0, 0, -5)", x.way(0, 0, -5), -10);
        Check.due("way(0, 0, MIN)", x.way(0, 0, MIN), -10);
        Check.due("way(1, 0, 0)", x.way(1, 0, 0), -10);
        Check.due("way(-1, 0, 0)", x.way(-1, 0, 0), -10);
        Check.due("way(0, 1, 0)", x.way(0, 1, 0), -10);
        Check.due("way(0, -1, 0)", x.way(0, -1, 0), -10);
        Check.due("these count as BAD", x.status(0), 6);
        x.rows(0, 0, 1);
        // What was gone, told and hurt ahead of it counts; one may go back through place 0.
        dueWay(x, 0, 0, 15, 15, 7, 2, 0, 7);
        x.rows(0, 0, 7);
        for (int k = -4; k < 3; k++) {
            Check.due("way at the Salute", x.way(0, 0, k), -1);
        }
        GondolaTold y = Check.water("water 6;canal 0 1 5;rower 0 5;guest 0 40;");
        Check.due("no way", y.way(0, 0, -4), -1);
        Check.due("no way", y.way(0, 0, MAX), -1);
        Check.due("no way, and BAD", y.way(0, 0, -5), -10);
    }

    private static void wayAmongLikeOnes() {
        Check.promise(19);
        String canals = "canal 0 7 5;canal 0 1 1;canal 1 7 1;rower 0 5;";
        dueWay(Check.water("water 6;dark 1 2;" + canals + "guest 1 5;"), 0, 0, 5, 5, 5, 1, 7);
        dueWay(Check.water("water 6;dark 7 2;" + canals + "guest 1 5;"), 0, 0, 5, 5, 2, 2, 1, 7);
        dueWay(Check.water("water 6;" + canals + "guest 0 5;"), 0, 0, 5, 5, 2, 2, 1, 7);
        dueWay(Check.water("water 6;" + canals + "canal 0 7 2;guest 0 5;"), 0, 0, 5, 5, 2, 2, 1, 7);
        dueWay(Check.water("water 6;" + canals + "canal 0 7 1;guest 0 5;"), 0, 0, 5, 5, 1, 1, 7);
        dueWay(Check.water("water 6;canal 0 3 1;canal 3 7 1;canal 0 2 1;canal 2 7 1;rower 0 5;guest 0 9;"),
                0, 0, 9, 9, 2, 2, 2, 7);
    }

    private static void wayAllOver() {
        Check.promise(19);
        GondolaTold x = new GondolaTold();
        for (int a = 0; a < 8; a++) {
            for (int b = a + 1; b < 8; b++) {
                x.canal(a, b, 1);
            }
        }
        x.rower(0, 1);
        x.guest(0, 40);
        dueWay(x, 0, 0, 7, 7, 7, 7, 1, 2, 3, 4, 5, 6, 7);
        // LATE: 0 at 9 STROKES, then five times 3 of 18 to 22, at the dark Salute 5 and 3 of 23.
        x.canal(0, 6, 9);
        x.canal(6, 3, 9);
        x.dark(7, 9);
        x.rower(4, 5);
        dueWay(x, 0, 1, 23, 23, 23, 7, 6, 3, 1, 2, 4, 5, 7);
    }

    private static void gentle() {
        Check.promise(20);
        String water = "water 6;dark 1 2;dark 2 8;canal 0 7 1;canal 0 1 1;canal 1 7 1;canal 0 2 9;canal 2 7 9;rower 0 5;";
        GondolaTold x = Check.water(water + "guest 1 10;guest 1 11;guest 1 5;");
        Check.due("gentle(0, 0)", x.gentle(0, 0), 10);
        Check.due("gentle(1, 0): never told all", x.gentle(1, 0), -1);
        Check.due("gentle(2, 0)", x.gentle(2, 0), 5);
        x.canal(0, 2, 0);
        Check.due("gentle(0, 0): under a lamp alone", x.gentle(0, 0), 15);
        Check.due("gentle(3, 0)", x.gentle(3, 0), -2);
        Check.due("gentle(-1, 0)", x.gentle(-1, 0), -2);
        Check.due("gentle(0, 1)", x.gentle(0, 1), -2);
        Check.due("gentle(0, -1)", x.gentle(0, -1), -2);
        x.rows(2, 0, 1);
        Check.due("gentle(2, 0): told already", x.gentle(2, 0), 10);
        x.rows(2, 0, 7);
        Check.due("gentle(2, 0): at the Salute", x.gentle(2, 0), -1);
    }

    private static void where() {
        Check.promise(21);
        GondolaTold x = Check.water("water 6;canal 0 1 1;canal 1 2 1;canal 2 7 1;rower 0 5;rower 0 0;"
                + "guest 0 5;guest 0 6;guest 0 15;guest 0 16;");
        Check.due("where(0, 0)", x.where(0, 0), 0);
        Check.due("where(1, 0)", x.where(1, 0), 1);
        Check.due("where(2, 0)", x.where(2, 0), 2);
        Check.due("where(3, 0): never", x.where(3, 0), -1);
        Check.due("where(0, 1): never", x.where(0, 1), -1);
        x.rows(0, 0, 1);
        Check.due("where(0, 0): told already", x.where(0, 0), -3);
        x.canal(2, 7, 0);
        Check.due("where(0, 0): told, and no way", x.where(0, 0), -3);
        Check.due("where(1, 0): no way", x.where(1, 0), -4);
        Check.due("neither is a refusal", x.status(0) + x.status(1) + x.status(2), 0);
        Check.due("where(4, 0)", x.where(4, 0), -10);
        Check.due("where(-1, 0)", x.where(-1, 0), -10);
        Check.due("where(0, 2)", x.where(0, 2), -10);
        Check.due("where(0, -1)", x.where(0, -1), -10);
        Check.due("status(0)", x.status(0), 4);
    }

    private static void share() {
        Check.promise(22);
        GondolaTold x = Check.water("water 6;canal 0 7 1;rower 0 5;rower 0 9;guest 0 40;guest 0 40;guest 0 40;");
        long before = x.digest();
        Check.due("share(-3)", x.share(-3), 23);
        Check.due("share(-2)", x.share(-2), 23);
        Check.due("share(0)", x.share(0), 0);
        Check.due("share(1)", x.share(1), 1);
        Check.due("share(2)", x.share(2), 1);
        Check.due("nothing is changed", x.digest(), before);
        Check.due("share(3)", x.share(3), -10);
        Check.due("share(-1)", x.share(-1), -10);
        Check.due("share(-4)", x.share(-4), -10);
        Check.due("share(MAX)", x.share(MAX), -10);
        Check.due("status(0)", x.status(0), 4);
        x.rows(1, 0, 7);
        Check.due("share(1): at the Salute", x.share(1), -1);
        Check.due("share(0)", x.share(0), 1);
        Check.due("share(2)", x.share(2), 1);
        Check.due("share(-3): with the one there", x.share(-3), 23);
        Check.due("share(-2)", x.share(-2), 23);
        GondolaTold empty = new GondolaTold();
        Check.due("share(-3): no guests", empty.share(-3), 0);
        Check.due("share(-2)", empty.share(-2), 0);
        Check.due("share(0)", empty.share(0), -10);
    }

    private static void shareAmongLikeOnes() {
        Check.promise(22);
        GondolaTold x = Check.water("water 6;dark 1 2;canal 0 1 1;canal 1 7 1;rower 0 5;rower 2 5;guest 1 5;guest 0 5;");
        Check.due("share(-3)", x.share(-3), 10);
        Check.due("share(-2): the shy one waits for the dark", x.share(-2), 10);
        Check.due("share(0)", x.share(0), 1);
        Check.due("share(1): like ones, the least", x.share(1), 0);
        GondolaTold y = Check.water("water 6;canal 0 7 1;rower 0 5;rower 0 5;rower 0 5;guest 0 9;guest 0 9;guest 0 9;guest 0 9;");
        Check.due("share(0)", y.share(0), 0);
        Check.due("share(1)", y.share(1), 0);
        Check.due("share(2): none rows more than 2", y.share(2), 1);
        Check.due("share(3)", y.share(3), 1);
    }

    private static void shareThatCanNotBe() {
        Check.promise(22);
        GondolaTold many = Check.water("water 6;canal 0 7 1;rower 0 5;guest 0 9;guest 0 9;guest 0 9;");
        Check.due("share(0): too many", many.share(0), -5);
        Check.due("share(-3)", many.share(-3), -5);
        Check.due("share(-2)", many.share(-2), -5);
        many.rows(2, 0, 7);
        Check.due("share(-3): two are not", many.share(-3), 15);
        GondolaTold lost = Check.water("water 6;canal 0 7 1;canal 0 1 1;rower 0 5;guest 0 9;guest 0 9;row 1 0 1;canal 0 1 0;");
        Check.due("share(0): another has no way", lost.share(0), -5);
        Check.due("share(-3)", lost.share(-3), -5);
        Check.due("no refusal", lost.status(0) + lost.status(1) + lost.status(2), 0);
        lost.rows(0, 0, 7);
        Check.due("share(0): at the Salute, yet it can not be", lost.share(0), -5);
        GondolaTold alone = Check.water("water 6;canal 0 7 1;guest 0 9;");
        Check.due("share(0): no rower", alone.share(0), -5);
    }
}
