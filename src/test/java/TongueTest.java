/** Promises 23 to 36: what was seen and what fits it, the lamps, odds, means and nights. */
public final class TongueTest {
    private static final int MAX = Integer.MAX_VALUE;
    private static final int MIN = Integer.MIN_VALUE;

    public static void main(String[] args) {
        seen();
        tongues();
        tell();
        note();
        mark();
        forget();
        is();
        look();
        kinds();
        ask();
        lamp();
        odds();
        mean();
        nights();
        Check.end();
    }

    private static void seen() {
        Check.promise(23);
        GondolaTold x = Check.water("water 6;rower 0 5;");
        int[][] wrong = {{-1, 1, 1, 1}, {1, 1, 1, 1}, {0, -1, 1, 1}, {0, 10, 1, 1}, {0, 1, -1, 1}, {0, 1, 100, 1},
            {0, 1, 1, -1}, {0, 1, 1, 100}, {MAX, MAX, MAX, MAX}, {MIN, MIN, MIN, MIN}};
        for (int[] w : wrong) {
            Check.due("seen(" + w[0] + ", ..)", x.seen(w[0], w[1], w[2], w[3]), -2);
        }
        Check.due("seen(0, 0, 0, 0)", x.seen(0, 0, 0, 0), 1);
        Check.due("seen(0, 9, 99, 99)", x.seen(0, 9, 99, 99), 2);
        for (int n = 3; n <= 5; n++) {
            Check.due("seen(0, 1, 1, 1)", x.seen(0, 1, 1, 1), n);
        }
        Check.due("seen(0, 1, 1, 1)", x.seen(0, 1, 1, 1), -4);
        Check.due("BAD comes ahead of FULL", x.seen(1, 1, 1, 1), -2);
        Check.due("count(6)", x.count(6), 5);
    }

    private static void tongues() {
        Check.promise(24);
        GondolaTold x = Check.water("water 6;rower 2 5;rower 1 5;rower 3 0;");
        Check.due("tongues(0): nothing seen", x.tongues(0), 1023);
        x.seen(0, 3, 50, 0);
        Check.due("tongues(0): in the light none tells", x.tongues(0), 1023);
        x.seen(0, 4, 1, 7);
        Check.due("tongues(0)", x.tongues(0), 128);
        Check.due("tongues(1): of another", x.tongues(1), 1023);
        x.seen(1, 0, 0, 12);
        Check.due("tongues(1)", x.tongues(1), 512);
        x.seen(0, 4, 1, 6);
        Check.due("tongues(0): they do not agree", x.tongues(0), 0);
        x.seen(2, 9, 13, 7);
        Check.due("tongues(2)", x.tongues(2), 32);
        Check.due("tongues(3)", x.tongues(3), -2);
        Check.due("tongues(-1)", x.tongues(-1), -2);
        GondolaTold y = Check.water("water 6;rower 1 5;");
        y.seen(0, 0, 0, 2);
        Check.due("tongues(0): less than a blunt one tells", y.tongues(0), 0);
    }

    private static void tell() {
        Check.promise(25);
        int[] want = {0, 0, 400, 400, 410, 0};
        for (int kind = 0; kind < 6; kind++) {
            GondolaTold x = new GondolaTold();
            x.rower(kind, 1);
            Check.due("tell(0) of kind " + kind, x.tell(0), want[kind]);
            Check.due("tell(1)", x.tell(1), -2);
            Check.due("tell(-1)", x.tell(-1), -2);
        }
        GondolaTold x = Check.water("water 6;rower 4 5;");
        x.seen(0, 9, 10, 4);
        Check.due("tell(0): one tongue", x.tell(0), 0);
        x.seen(0, 9, 9, 1);
        Check.due("tell(0): no tongue", x.tell(0), -1);
        Check.due("no refusal", x.status(0) + x.status(1) + x.status(2), 0);
    }

    private static void note() {
        Check.promise(26);
        GondolaTold x = Check.water("water 6;guest 0 5;");
        int[][] wrong = {{-1, 9, 1, 1, 1, 1}, {1, 9, 1, 1, 1, 1}, {0, 0, 0, 1, 1, 1}, {0, 41, 1, 1, 1, 1},
            {0, 9, -1, 1, 1, 1}, {0, 9, 10, 1, 1, 1}, {0, 9, 1, -1, 1, 1}, {0, 9, 1, 21, 1, 1}, {0, 9, 1, 1, -1, 1},
            {0, 9, 1, 1, 10, 1}, {0, 9, 1, 1, 1, -1}, {0, 9, 1, 1, 1, 61}, {MAX, MAX, MAX, MAX, MAX, MAX},
            {MIN, MIN, MIN, MIN, MIN, MIN}};
        for (int[] w : wrong) {
            Check.due("note(" + w[0] + ", ..)", x.note(w[0], w[1], w[2], w[3], w[4], w[5]), -2);
        }
        Check.due("note: the least", x.note(0, 1, 0, 0, 0, 0), 1);
        Check.due("note: the most", x.note(0, 40, 40, 20, 9, 60), 2);
        for (int n = 3; n <= 6; n++) {
            Check.due("note(0, 9, 9, 1, 1, 1)", x.note(0, 9, 9, 1, 1, 1), n);
        }
        Check.due("note(0, 9, 9, 1, 1, 1)", x.note(0, 9, 9, 1, 1, 1), -4);
        Check.due("BAD comes ahead of FULL", x.note(0, 9, 10, 1, 1, 1), -2);
        Check.due("count(7)", x.count(7), 6);
    }

    private static void mark() {
        Check.promise(27);
        GondolaTold x = Check.water("water 6;rower 0 5;");
        int[][] wrong = {{-1, 1, 1, 1, 1}, {1, 1, 1, 1, 1}, {0, -1, 1, 1, 1}, {0, 10, 1, 1, 1}, {0, 1, -1, 1, 1},
            {0, 1, 10, 1, 1}, {0, 1, 1, -1, 1}, {0, 1, 1, 100, 1}, {0, 1, 1, 1, -1}, {0, 1, 1, 1, 100},
            {MAX, MAX, MAX, MAX, MAX}, {MIN, MIN, MIN, MIN, MIN}};
        for (int[] w : wrong) {
            Check.due("mark(" + w[0] + ", ..)", x.mark(w[0], w[1], w[2], w[3], w[4]), -2);
        }
        Check.due("mark: the least", x.mark(0, 0, 0, 0, 0), 1);
        Check.due("mark: the most", x.mark(0, 9, 9, 99, 99), 2);
        for (int n = 3; n <= 6; n++) {
            Check.due("mark(0, 1, 1, 1, 1)", x.mark(0, 1, 1, 1, 1), n);
        }
        Check.due("mark(0, 1, 1, 1, 1)", x.mark(0, 1, 1, 1, 1), -4);
        Check.due("BAD comes ahead of FULL", x.mark(1, 1, 1, 1, 1), -2);
        Check.due("count(8)", x.count(8), 6);
    }

    private static void forget() {
        Check.promise(28);
        GondolaTold x = Check.water("water 6;rower 0 5;guest 0 5;");
        x.seen(0, 1, 1, 1);
        x.note(0, 1, 1, 1, 1, 1);
        x.note(0, 1, 1, 1, 1, 1);
        x.mark(0, 1, 1, 1, 1);
        x.mark(0, 1, 1, 1, 1);
        x.mark(0, 1, 1, 1, 1);
        Check.due("forget(-1)", x.forget(-1), -2);
        Check.due("forget(3)", x.forget(3), -2);
        for (int what = 0; what < 3; what++) {
            Check.due("forget(" + what + ")", x.forget(what), what + 1);
            Check.due("count(" + (6 + what) + ")", x.count(6 + what), 0);
            Check.due("forget(" + what + ")", x.forget(what), 0);
            for (int later = what + 1; later < 3; later++) {
                Check.due("others stay", x.count(6 + later), later + 1);
            }
        }
        Check.due("tongues(0)", x.tongues(0), 1023);
    }

    private static void is() {
        Check.promise(29);
        GondolaTold x = Check.water("water 6;guest 0 5;guest 1 40;");
        Check.due("is(0): no notes", x.is(0), 63);
        x.note(0, 16, 4, 5, 3, 8);
        Check.due("is(0): SOFT, WISE", x.is(0), 36);
        Check.due("is(1): of another", x.is(1), 63);
        x.note(0, 16, 4, 9, 3, 9);
        Check.due("is(0): WISE", x.is(0), 32);
        x.note(0, 16, 4, 9, 3, 10);
        Check.due("is(0): none", x.is(0), 0);
        x.note(1, 16, 4, 2, 6, 0);
        Check.due("is(1): DEAF", x.is(1), 16);
        x.forget(1);
        x.note(1, 16, 16, 3, 4, 6);
        Check.due("is(1): PROUD", x.is(1), 2);
        x.forget(1);
        x.note(1, 16, 16, 3, 4, 9);
        Check.due("is(1): VAIN, DEAF", x.is(1), 24);
        Check.due("is(2)", x.is(2), -2);
        Check.due("is(-1)", x.is(-1), -2);
    }

    private static void look() {
        Check.promise(30);
        GondolaTold x = Check.water("water 6;guest 0 40;guest 0 3;guest 0 4;guest 0 8;rower 1 1;canal 0 1 1;");
        Check.due("look(0): all six apart", x.look(0), 1);
        Check.due("look(1)", x.look(1), 10);
        Check.due("look(2)", x.look(2), 2);
        x.rows(3, 0, 1);
        // Of the HOPE of 8 so 4 are left: as one whose HOPE is 4.
        Check.due("look(3): KNOWS counts", x.look(3), 2);
        x.note(0, 16, 16, 3, 4, 9);
        Check.due("look(0): VAIN or DEAF", x.look(0), 1);
        x.note(0, 16, 16, 2, 4, 0);
        Check.due("look(0): DEAF alone", x.look(0), 0);
        x.note(0, 16, 16, 2, 4, 1);
        Check.due("look(0): none", x.look(0), -1);
        Check.due("look(4)", x.look(4), -2);
        Check.due("look(-1)", x.look(-1), -2);
    }

    private static void kinds() {
        Check.promise(31);
        GondolaTold x = Check.water("water 6;rower 0 5;rower 0 1;");
        Check.due("kinds(0): no marks", x.kinds(0), 63);
        x.mark(0, 4, 6, 12, 4);
        Check.due("kinds(0): PLAIN, SHY", x.kinds(0), 5);
        Check.due("kinds(1): of another", x.kinds(1), 63);
        x.mark(0, 4, 3, 12, 4);
        Check.due("kinds(0): PLAIN", x.kinds(0), 1);
        x.mark(0, 4, 3, 12, 5);
        Check.due("kinds(0): none", x.kinds(0), 0);
        x.mark(1, 4, 6, 12, 6);
        Check.due("kinds(1): WINDING, LATE", x.kinds(1), 24);
        x.forget(2);
        x.mark(1, 4, 6, 12, 7);
        Check.due("kinds(1): BLUNT, OFFHAND", x.kinds(1), 34);
        x.mark(1, 4, 6, 11, 5);
        Check.due("kinds(1): OFFHAND", x.kinds(1), 32);
        Check.due("kinds(2)", x.kinds(2), -2);
        Check.due("kinds(-1)", x.kinds(-1), -2);
    }

    private static void ask() {
        Check.promise(32);
        GondolaTold x = Check.water("water 6;rower 0 1;rower 0 3;");
        Check.due("ask(0)", x.ask(0), 6);
        x.mark(1, 4, 6, 12, 4);
        Check.due("ask(1): PLAIN or SHY", x.ask(1), 0);
        x.forget(2);
        x.mark(1, 4, 6, 12, 6);
        Check.due("ask(1): WINDING or LATE", x.ask(1), 6);
        x.forget(2);
        x.mark(1, 4, 6, 12, 7);
        Check.due("ask(1): BLUNT or OFFHAND", x.ask(1), 1);
        x.mark(1, 4, 6, 11, 5);
        Check.due("ask(1): OFFHAND", x.ask(1), 0);
        x.mark(1, 4, 6, 11, 6);
        Check.due("ask(1): none", x.ask(1), -1);
        Check.due("ask(2)", x.ask(2), -2);
        Check.due("ask(-1)", x.ask(-1), -2);
    }

    private static void lamp() {
        Check.promise(33);
        // It hurts 5, 5, 0, 0: to begin at once rests, to wait for the light, too.
        GondolaTold x = Check.water("water 6;canal 0 7 6;rower 2 5;rower 0 5;rower 3 0;guest 0 40;guest 0 1;guest 0 40;");
        long before = x.digest();
        Check.due("lamp(0, 0, -1)", x.lamp(0, 0, -1), 2);
        Check.due("lamp(0, 0, 0)", x.lamp(0, 0, 0), 0);
        Check.due("lamp(0, 0, 1)", x.lamp(0, 0, 1), 22);
        Check.due("lamp(0, 0, 2)", x.lamp(0, 0, 2), -5);
        Check.due("lamp(0, 0, MAX)", x.lamp(0, 0, MAX), -5);
        Check.due("lamp(0, 1, -1)", x.lamp(0, 1, -1), 1);
        Check.due("lamp(0, 1, 0)", x.lamp(0, 1, 0), 0);
        Check.due("lamp(1, 0, -1): no more than is left", x.lamp(1, 0, -1), 1);
        Check.due("nothing is changed", x.digest(), before);
        Check.due("no refusal", x.status(0), 0);
        Check.due("lamp(0, 0, -2)", x.lamp(0, 0, -2), -10);
        Check.due("lamp(0, 0, MIN)", x.lamp(0, 0, MIN), -10);
        Check.due("lamp(3, 0, 0)", x.lamp(3, 0, 0), -10);
        Check.due("lamp(-1, 0, 0)", x.lamp(-1, 0, 0), -10);
        Check.due("lamp(0, 3, 0)", x.lamp(0, 3, 0), -10);
        Check.due("lamp(0, -1, 0)", x.lamp(0, -1, 0), -10);
        Check.due("status(0)", x.status(0), 6);
        // It hurts 3, 3, 0, 0, then 4, 4, 1, 1: what the guest gains by waiting, the rower does not.
        GondolaTold y = Check.water("water 6;canal 0 7 6;rower 2 3;rower 3 3;rower 2 4;guest 0 40;");
        Check.due("lamp(0, 0, -1)", y.lamp(0, 0, -1), 1);
        Check.due("lamp(0, 2, -1): as good is enough", y.lamp(0, 2, -1), 2);
        Check.due("lamp(0, 2, 1)", y.lamp(0, 2, 1), 22);
        y.rows(0, 0, 7);
        Check.due("lamp(0, 1, -1): strokes gone count", y.lamp(0, 1, -1), 1);
    }

    private static void dueFraction(GondolaTold x, String call, long above, long below) {
        Check.due(call + ": part(0)", x.part(0), above);
        Check.due(call + ": part(1)", x.part(1), below);
    }

    private static void dueOdds(GondolaTold x, int times, int c, long above, long below) {
        Check.due("odds(0, 0, " + times + ", " + c + ")", x.odds(0, 0, times, c), 1);
        dueFraction(x, "odds(0, 0, " + times + ", " + c + ")", above, below);
    }

    private static void odds() {
        Check.promise(34);
        GondolaTold x = Check.water("water 6;canal 0 1 1;canal 1 7 1;canal 7 2 1;rower 0 5;guest 0 10;guest 0 10;");
        dueOdds(x, 5, 3, 91, 100);
        dueOdds(x, 6, 3, 49, 100);
        dueOdds(x, 10, 3, 49, 100);
        dueOdds(x, 0, 3, 1, 1);
        dueOdds(x, 11, 3, 0, 1);
        dueOdds(x, 40, 3, 0, 1);
        dueOdds(x, 10, 0, 1, 1);
        dueOdds(x, 1, 10, 0, 1);
        dueOdds(x, 0, 10, 1, 1);
        dueOdds(x, 10, 4, 9, 25);
        int[][] wrong = {{2, 0, 1, 1}, {-1, 0, 1, 1}, {0, 1, 1, 1}, {0, -1, 1, 1}, {0, 0, -1, 1}, {0, 0, 41, 1},
            {0, 0, 1, -1}, {0, 0, 1, 11}, {MAX, MIN, MAX, MIN}};
        for (int[] w : wrong) {
            Check.due("odds(" + w[0] + ", ..)", x.odds(w[0], w[1], w[2], w[3]), -2);
        }
        x.rows(1, 0, 1);
        x.rows(1, 0, 7);
        Check.due("odds(1, 0, 1, 1): at the Salute", x.odds(1, 0, 1, 1), -3);
        dueFraction(x, "refused", 9, 25);
        x.rows(0, 0, 1);
        dueOdds(x, 5, 7, 1, 1);
        dueOdds(x, 6, 7, 3, 10);
        Check.due("status(0)", x.status(0), wrong.length);
        Check.due("status(1)", x.status(1), 1);
        // What was not heard is left to know: 3 of 3 places would tell 5, and 10 are all.
        GondolaTold y = Check.water("water 6;canal 0 1 1;canal 1 2 1;canal 2 7 1;rower 0 5;guest 0 10;");
        dueOdds(y, 10, 5, 1, 2);
        // 1 to 7 in a row, the most there is
        GondolaTold z = Check.water("water 6;canal 0 1 1;canal 1 2 1;canal 2 3 1;canal 3 4 1;canal 4 5 1;canal 5 6 1;"
                + "canal 6 7 1;rower 0 1;guest 0 40;");
        dueOdds(z, 7, 1, 4782969, 10000000);
        dueOdds(z, 1, 1, 9999999, 10000000);
    }

    private static void mean() {
        Check.promise(35);
        GondolaTold x = Check.water("water 6;canal 0 1 1;canal 1 7 1;rower 0 5;guest 0 10;guest 0 5;guest 3 10;guest 2 10;");
        Check.due("mean(0, 0, 3)", x.mean(0, 0, 3), 1);
        dueFraction(x, "mean(0, 0, 3)", 7, 1);
        Check.due("mean(1, 0, 3)", x.mean(1, 0, 3), 1);
        dueFraction(x, "mean(1, 0, 3)", 91, 20);
        Check.due("mean(2, 0, 3)", x.mean(2, 0, 3), 1);
        dueFraction(x, "mean(2, 0, 3)", 56, 5);
        // SOFT: 7 by the first, then 6 by the second, or 7 if the first was not heard.
        Check.due("mean(3, 0, 5)", x.mean(3, 0, 5), 1);
        dueFraction(x, "mean(3, 0, 5)", 27, 4);
        Check.due("mean(0, 0, 10)", x.mean(0, 0, 10), 1);
        dueFraction(x, "mean(0, 0, 10)", 0, 1);
        Check.due("mean(0, 0, 0)", x.mean(0, 0, 0), 1);
        dueFraction(x, "mean(0, 0, 0)", 10, 1);
        int[][] wrong = {{4, 0, 1}, {-1, 0, 1}, {0, 1, 1}, {0, -1, 1}, {0, 0, -1}, {0, 0, 11}, {MAX, MIN, MAX}};
        for (int[] w : wrong) {
            Check.due("mean(" + w[0] + ", ..)", x.mean(w[0], w[1], w[2]), -2);
        }
        x.rows(0, 0, 1);
        Check.due("mean(0, 0, 10): what hurt already", x.mean(0, 0, 10), 1);
        dueFraction(x, "mean(0, 0, 10)", 5, 1);
        x.canal(1, 7, 0);
        Check.due("mean(0, 0, 1): no way", x.mean(0, 0, 1), -3);
        dueFraction(x, "refused", 5, 1);
        Check.due("status(1)", x.status(1), 1);
    }

    private static void nights() {
        Check.promise(36);
        // By SEED 1 the first draw is GUEST 2, ROWER 0, PLACE 4.
        GondolaTold x = Check.water("water 6;canal 0 4 1;rower 0 9;guest 0 9;guest 0 9;guest 0 9;");
        long before = x.digest();
        Check.due("nights(1, 0)", x.nights(1, 0), 0);
        Check.due("nights(1, 1)", x.nights(1, 1), 1);
        Check.due("nothing is changed", x.digest(), before);
        x.rows(0, 0, 4);
        Check.due("nights(1, 0): told already", x.nights(1, 0), 1);
        Check.due("nights(1, 1)", x.nights(1, 1), 2);
        Check.due("nights(0, 0)", x.nights(0, 0), 1);
        Check.due("what may be undone stays", x.count(9), 1);
        int[][] wrong = {{-1, 1}, {1000000, 1}, {1, -1}, {1, 61}, {MAX, MIN}};
        for (int[] w : wrong) {
            Check.due("nights(" + w[0] + ", " + w[1] + ")", x.nights(w[0], w[1]), -2);
        }
        Check.due("nights(999999, 60) ends", Math.min(0, x.nights(999999, 60)), 0);
        GondolaTold few = Check.water("water 6;canal 0 4 1;rower 0 9;guest 0 9;guest 0 9;");
        Check.due("nights(1, 1): no guest 2", few.nights(1, 1), 0);
        // By SEED 5040 GUEST 0 by ROWER 2, who is not there, to PLACE 2, then by ROWER 0 to PLACE 1.
        GondolaTold back = Check.water("water 6;canal 0 7 1;canal 0 1 1;rower 0 5;guest 0 10;row 0 0 7;");
        Check.due("nights(5040, 1): gets in", back.nights(5040, 1), 0);
        Check.due("nights(5040, 2): and is rowed", back.nights(5040, 2), 1);
    }
}
