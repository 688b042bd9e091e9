/** LAMP, ODDS, MEAN, NIGHTS, THE FRACTION and promises 33 to 37: sentence by sentence. */
public final class EdgesChanceTest {
    public static void main(String[] args) throws Exception {
        Edge.all(EdgesChanceTest.class);
    }

    // ---- LAMP

    private static void dueLamp(String why, GondolaTold x, int g, int r, int... pairs) {
        Edge.due(why + ": how many", x.lamp(g, r, -1), pairs.length);
        for (int k = 0; k < pairs.length; k++) {
            Edge.due(why + ": the " + k + "-th", x.lamp(g, r, k), pairs[k]);
        }
        Edge.due(why + ": behind the last", x.lamp(g, r, pairs.length), -5);
    }

    /** One SHY tells under the first two lamps, 9 and 6 DARK, and not under those 3 and 0 DARK. */
    private static void lampsAreFour() {
        Edge.says(0, "LAMP: a GUEST and a ROWER, each begins to speak at the i-th, j-th of the next 4 lamps (0 .. 3), under which"
                + " it is 9, 6, 3, 0 DARK,");
        dueLamp("SHY", Edge.water("water 6;rower 2 9;guest 0 40;"), 0, 0, 0, 22);
        dueLamp("SHY, where it is light now", Edge.water("water 0;rower 2 9;guest 0 40;"), 0, 0, 0, 22);
        dueLamp("PLAIN: each lamp alike", Edge.water("water 6;rower 0 9;guest 0 40;"), 0, 0, 0);
        dueLamp("PLAIN to one PROUD: worse in the light", Edge.water("water 6;rower 0 9;guest 1 40;"), 0, 0, 0);
        dueLamp("one who tells nothing", Edge.water("water 6;rower 0 0;guest 0 40;"), 0, 0, 0);
    }

    private static GondolaTold lateOne(int tongue, int strokes) {
        GondolaTold x = Edge.water("water 3;canal 0 1 9;canal 1 2 1;rower 4 " + tongue + ";rower 0 0;guest 0 40;row 0 1 1;");
        if (strokes > 9) {
            x.rows(0, 1, 2);
        }
        return x;
    }

    private static void lampsByStrokesGone() {
        Edge.says(0, "STROKES gone as they are:");
        dueLamp("LATE, 9 strokes: nothing is told", lateOne(9, 9), 0, 0, 0);
        dueLamp("LATE, 10 strokes: 10 in the dark, 1 in the light", lateOne(9, 10), 0, 0, 0, 22);
        dueLamp("LATE, 5 in the dark, 1 in the light", lateOne(4, 10), 0, 0, 0, 22);
        dueLamp("LATE, 4 in the dark, 1 in the light", lateOne(3, 10), 0, 0, 0);
    }

    /** Were it said at the later one, 2 and 3 would not rest by being alike alone. */
    private static void saidAtTheLesser() {
        Edge.says(0, "it is said at the lesser of both;");
        GondolaTold x = Edge.water("water 6;rower 2 9;guest 0 40;");
        for (int k = 0; k < x.lamp(0, 0, -1); k++) {
            int pair = x.lamp(0, 0, k);
            Edge.due("both begin at once", pair / 10, pair % 10);
        }
        Edge.due("to begin at 0 rests, though waiting for the light hurts none", x.lamp(0, 0, 0), 0);
    }

    /** To wait for the light costs the ROWER 4: it rests, if 4 less is hurt by it. */
    private static void whatTheRowerHas() {
        Edge.says(0, "to the ROWER 10 less what it would HURT then by what is told there, less 2 for each lamp ahead of j;");
        for (int tongue = 0; tongue <= 9; tongue++) {
            GondolaTold x = Edge.water("water 6;rower 2 " + tongue + ";guest 0 40;");
            if (tongue >= 4) {
                dueLamp("SHY of " + tongue, x, 0, 0, 0, 22);
            } else {
                dueLamp("SHY of " + tongue, x, 0, 0, 0);
            }
        }
    }

    /** VAIN: 3 more by anything told; DEAF: nothing below 3; WISE: 9 at most; SOFT: by what is left. */
    private static void whatItWouldHurt() {
        Edge.says(0, "10 less what it would HURT then by what is told there");
        dueLamp("VAIN, 1 told", Edge.water("water 6;rower 2 1;guest 3 40;"), 0, 0, 0, 22);
        dueLamp("PLAIN, 1 told", Edge.water("water 6;rower 2 1;guest 0 40;"), 0, 0, 0);
        dueLamp("DEAF, 2 told", Edge.water("water 6;rower 2 2;guest 4 40;"), 0, 0, 0);
        dueLamp("DEAF, 3 told", Edge.water("water 6;rower 2 3;guest 4 40;"), 0, 0, 0, 22);
        dueLamp("SOFT, 11 left", Edge.water("water 6;rower 2 1;guest 2 11;"), 0, 0, 0);
        dueLamp("SOFT, 12 left", Edge.water("water 6;rower 2 1;guest 2 12;"), 0, 0, 0, 22);
        dueLamp("WISE, 12 left", Edge.water("water 6;rower 2 1;guest 5 12;"), 0, 0, 0, 22);
    }

    private static void whatIsToldIsNoMoreThanIsLeft() {
        Edge.says(0, "by what is told there");
        dueLamp("3 are left", Edge.water("water 6;rower 2 9;guest 0 3;"), 0, 0, 0);
        dueLamp("4 are left", Edge.water("water 6;rower 2 9;guest 0 4;"), 0, 0, 0, 22);
        dueLamp("none are left", Edge.water("water 6;canal 0 1 1;rower 2 9;guest 3 4;row 0 0 1;"), 0, 0, 0);
    }

    private static void whatTheGuestHas() {
        Edge.says(0, "to the GUEST 10 less what it would HURT, less i:");
        GondolaTold x = Edge.water("water 6;rower 2 9;guest 0 40;");
        Edge.due("no pair in which the guest begins later than the rower, or the rower than the guest", x.lamp(0, 0, -1), 2);
        GondolaTold y = Edge.water("water 6;rower 0 0;guest 0 40;");
        Edge.due("nothing hurts: to begin at once is best", y.lamp(0, 0, 0), 0);
    }

    private static void pairsThatRest() {
        Edge.says(0, "pairs 10 i and j that rest (neither would have more by another lamp): how many; the k-th (rising).");
        dueLamp("as much is not more", Edge.water("water 6;rower 2 4;guest 0 40;"), 0, 0, 0, 22);
        dueLamp("1 more is", Edge.water("water 6;rower 2 3;guest 0 40;"), 0, 0, 0);
    }

    private static void lampAnswers() {
        Edge.says(33, "LAMP: how many (k = NONE), the k-th.");
        GondolaTold x = Edge.water("water 6;rower 2 4;guest 0 40;");
        Edge.due("lamp(0, 0, NONE)", x.lamp(0, 0, GondolaTold.NONE), 2);
        Edge.due("lamp(0, 0, 0)", x.lamp(0, 0, 0), 0);
        Edge.due("lamp(0, 0, 1)", x.lamp(0, 0, 1), 22);
    }

    private static void lampHasNotSoMany() {
        Edge.says(33, "-5: not so many.");
        GondolaTold x = Edge.water("water 6;rower 2 4;guest 0 40;");
        for (int k : new int[] {2, 3, 15, 16, 17, Edge.MAX}) {
            Edge.due("lamp(0, 0, " + k + ")", x.lamp(0, 0, k), -5);
        }
        Edge.due("no refusal", Edge.refused(x), 0);
    }

    private static void lampIsBad() {
        Edge.says(33, "BAD: -10.");
        Edge.range("lamp(value, 0, 0)", Edge::rich, (x, v) -> x.lamp(v, 0, 0), 0, 2, -10);
        Edge.range("lamp(0, value, 0)", Edge::rich, (x, v) -> x.lamp(0, v, 0), 0, 1, -10);
        Edge.refuses("lamp(0, 0, -2)", Edge::rich, x -> x.lamp(0, 0, -2), -10, 0);
        Edge.refuses("lamp(0, 0, MIN)", Edge::rich, x -> x.lamp(0, 0, Edge.MIN), -10, 0);
        Edge.refuses("BAD comes ahead of -5", Edge::rich, x -> x.lamp(3, 0, 99), -10, 0);
    }

    /** Places and canals do not matter: one at the Salute may speak, too. */
    private static void lampAnywhere() {
        Edge.says(33, "LAMP");
        GondolaTold x = Edge.water("water 6;canal 0 7 6;rower 2 5;rower 3 0;guest 0 40;row 0 1 7;");
        dueLamp("at the Salute", x, 0, 0, 0, 22);
    }

    // ---- ODDS and MEAN

    private static void dueFraction(String why, GondolaTold x, long above, long below) {
        Edge.due(why + ": above", x.part(0), above);
        Edge.due(why + ": below", x.part(1), below);
    }

    private static void dueOdds(GondolaTold x, int times, int c, long above, long below) {
        Edge.due("odds(0, 0, " + times + ", " + c + ")", x.odds(0, 0, times, c), 1);
        dueFraction("odds(0, 0, " + times + ", " + c + ")", x, above, below);
    }

    private static void dueMean(GondolaTold x, int c, long above, long below) {
        Edge.due("mean(0, 0, " + c + ")", x.mean(0, 0, c), 1);
        dueFraction("mean(0, 0, " + c + ")", x, above, below);
    }

    private static final String TWO = "water 6;canal 0 1 1;canal 1 7 1;rower 0 5;";

    private static void oddsAlongTheWay() {
        Edge.says(0, "ODDS: along the WAY of a GUEST by a ROWER what is told at a PLACE is not heard (neither KNOWS nor HURT are"
                + " more)");
        GondolaTold x = Edge.water("water 6;canal 0 7 1;canal 0 1 9;canal 1 7 9;rower 0 5;guest 1 10;");
        dueOdds(x, 10, 3, 49, 100);
        dueOdds(x, 6, 3, 49, 100);
        dueOdds(x, 5, 3, 91, 100);
        dueMean(x, 3, 7, 1);
    }

    /** What was not heard at one place may yet be heard at the next: what is left is more for it. */
    private static void whatWasNotHeardIsLeft() {
        Edge.says(0, "(neither KNOWS nor HURT are more)");
        GondolaTold x = Edge.water("water 6;canal 0 1 1;canal 1 2 1;canal 2 7 1;rower 0 5;guest 2 10;");
        dueOdds(x, 10, 5, 1, 2);
        dueOdds(x, 5, 5, 7, 8);
        // SOFT: 7 by the first that is heard, 6 by the second, nothing by the third.
        dueMean(x, 5, 7 * 3 + 13 * 3 + 13, 8);
    }

    /** The strokes are gone, heard or not. */
    private static void strokesGoneWithoutHearing() {
        Edge.says(0, "what is told at a PLACE is not heard");
        GondolaTold x = Edge.water("water 6;canal 0 1 9;canal 1 7 1;rower 4 3;guest 0 40;");
        dueOdds(x, 4, 0, 1, 1);
        dueOdds(x, 4, 7, 3, 10);
        dueOdds(x, 5, 0, 0, 1);
        GondolaTold y = Edge.water("water 6;canal 0 1 3;canal 1 7 3;rower 5 0;guest 0 40;");
        dueOdds(y, 3, 5, 1, 2);
        dueOdds(y, 4, 5, 1, 4);
    }

    private static void byCOfTen() {
        Edge.says(0, "by c of 10 (0 .. 10), at each apart:");
        GondolaTold x = Edge.water(TWO + "guest 0 10;");
        dueOdds(x, 10, 0, 1, 1);
        dueOdds(x, 10, 1, 81, 100);
        dueOdds(x, 10, 9, 1, 100);
        dueOdds(x, 10, 10, 0, 1);
        dueOdds(x, 1, 10, 0, 1);
        dueOdds(x, 1, 9, 19, 100);
        dueOdds(x, 1, 1, 99, 100);
        Edge.range("odds(0, 0, 5, value)", Edge::rich, (y, v) -> y.odds(0, 0, 5, v), 0, 10, -2);
        Edge.range("mean(0, 0, value)", Edge::rich, (y, v) -> y.mean(0, 0, v), 0, 10, -2);
    }

    private static void theChanceOfXOrMore() {
        Edge.says(0, "the chance that KNOWS is x (0 .. 40) or more at THE SALUTE: THE FRACTION.");
        GondolaTold x = Edge.water(TWO + "guest 0 9;");
        dueOdds(x, 0, 10, 1, 1);
        dueOdds(x, 0, 4, 1, 1);
        dueOdds(x, 1, 4, 21, 25);
        dueOdds(x, 5, 4, 21, 25);
        dueOdds(x, 6, 4, 9, 25);
        dueOdds(x, 9, 4, 9, 25);
        dueOdds(x, 10, 4, 0, 1);
        dueOdds(x, 40, 4, 0, 1);
        x.rows(0, 0, 1);
        dueOdds(x, 5, 10, 1, 1);
        dueOdds(x, 6, 10, 0, 1);
        Edge.range("odds(0, 0, value, 3)", Edge::rich, (y, v) -> y.odds(0, 0, v, 3), 0, 40, -2);
        GondolaTold all = Edge.water("water 6;canal 0 1 1;canal 1 2 1;canal 2 3 1;canal 3 7 1;rower 1 7;guest 0 40;");
        dueOdds(all, 40, 0, 1, 1);
        dueOdds(all, 40, 5, 1, 16);
    }

    private static void theLongestWay() {
        Edge.says(0, "at each apart");
        GondolaTold x = Edge.water("water 0;canal 0 1 1;canal 1 2 1;canal 2 3 1;canal 3 4 1;canal 4 5 1;canal 5 6 1;canal 6 7 1;"
                + "rower 0 1;guest 1 40;");
        dueOdds(x, 7, 1, 4782969, 10000000);
        dueOdds(x, 7, 9, 1, 10000000);
        dueOdds(x, 1, 9, 10000000 - 4782969, 10000000);
        dueOdds(x, 7, 5, 1, 128);
        dueMean(x, 9, 7, 5);
        dueMean(x, 0, 14, 1);
    }

    private static void theMeanOfHurt() {
        Edge.says(0, "MEAN: the mean of HURT there, likewise: THE FRACTION");
        GondolaTold x = Edge.water(TWO + "guest 0 5;");
        dueMean(x, 0, 5, 1);
        dueMean(x, 3, 91, 20);
        dueMean(x, 10, 0, 1);
        x.rows(0, 0, 1);
        dueMean(x, 10, 5, 1);
        dueMean(x, 3, 5, 1);
        GondolaTold y = Edge.water(TWO + "guest 3 20;row 0 0 1;");
        dueMean(y, 10, 8, 1);
        dueMean(y, 5, 12, 1);
        dueMean(y, 0, 16, 1);
        GondolaTold z = Edge.water(TWO + "dark 7 4;guest 3 20;");
        dueMean(z, 5, 21, 2);
    }

    private static void withoutAWayBothAreNo() {
        Edge.says(0, "(without a WAY both are NO).");
        Edge.Make there = () -> Edge.water("water 6;canal 0 7 1;rower 0 5;guest 0 9;guest 0 9;row 0 0 7;canal 0 7 0;");
        for (int guest = 0; guest < 2; guest++) {
            int g = guest;
            Edge.refuses("odds(" + g + ", 0, 0, 0)", there, x -> x.odds(g, 0, 0, 0), -3, 1);
            Edge.refuses("mean(" + g + ", 0, 0)", there, x -> x.mean(g, 0, 0), -3, 1);
        }
    }

    private static void oddsAnswers() {
        Edge.says(34, "ODDS is THE FRACTION: 1.");
        GondolaTold x = Edge.water(TWO + "guest 0 10;");
        Edge.due("odds(0, 0, 5, 3)", x.odds(0, 0, 5, 3), 1);
        dueFraction("odds", x, 91, 100);
        Edge.due("a chance of none", x.odds(0, 0, 40, 3), 1);
        dueFraction("odds", x, 0, 1);
    }

    private static void oddsIsBad() {
        Edge.says(34, "BAD;");
        Edge.range("odds(value, 0, 5, 3)", Edge::rich, (x, v) -> x.odds(v, 0, 5, 3), 0, 2, -2);
        Edge.range("odds(0, value, 5, 3)", Edge::rich, (x, v) -> x.odds(0, v, 5, 3), 0, 1, -2);
        Edge.range("odds(0, 0, value, 3)", Edge::rich, (x, v) -> x.odds(0, 0, v, 3), 0, 40, -2);
        Edge.range("odds(0, 0, 5, value)", Edge::rich, (x, v) -> x.odds(0, 0, 5, v), 0, 10, -2);
    }

    private static void oddsIsNo() {
        Edge.says(34, "NO.");
        Edge.Make there = () -> {
            GondolaTold x = Edge.rich();
            x.rows(0, 0, 7);
            return x;
        };
        Edge.refuses("odds(0, 0, 5, 3)", there, x -> x.odds(0, 0, 5, 3), -3, 1);
        Edge.refuses("BAD comes ahead of NO: odds(0, 0, 41, 3)", there, x -> x.odds(0, 0, 41, 3), -2, 0);
        Edge.refuses("BAD comes ahead of NO: odds(0, 0, 5, 11)", there, x -> x.odds(0, 0, 5, 11), -2, 0);
        Edge.refuses("BAD comes ahead of NO: odds(0, 2, 5, 3)", there, x -> x.odds(0, 2, 5, 3), -2, 0);
    }

    private static void meanAnswers() {
        Edge.says(35, "MEAN is THE FRACTION: 1.");
        GondolaTold x = Edge.water(TWO + "guest 0 10;");
        Edge.due("mean(0, 0, 3)", x.mean(0, 0, 3), 1);
        dueFraction("mean", x, 7, 1);
        Edge.due("a mean of none", x.mean(0, 0, 10), 1);
        dueFraction("mean", x, 0, 1);
    }

    private static void meanIsBad() {
        Edge.says(35, "BAD;");
        Edge.range("mean(value, 0, 3)", Edge::rich, (x, v) -> x.mean(v, 0, 3), 0, 2, -2);
        Edge.range("mean(0, value, 3)", Edge::rich, (x, v) -> x.mean(0, v, 3), 0, 1, -2);
        Edge.range("mean(0, 0, value)", Edge::rich, (x, v) -> x.mean(0, 0, v), 0, 10, -2);
    }

    private static void meanIsNo() {
        Edge.says(35, "NO.");
        Edge.Make there = () -> {
            GondolaTold x = Edge.rich();
            x.rows(0, 0, 7);
            return x;
        };
        Edge.refuses("mean(0, 0, 3)", there, x -> x.mean(0, 0, 3), -3, 1);
        Edge.refuses("BAD comes ahead of NO: mean(0, 0, 11)", there, x -> x.mean(0, 0, 11), -2, 0);
        Edge.refuses("BAD comes ahead of NO: mean(0, 2, 3)", there, x -> x.mean(0, 2, 3), -2, 0);
    }

    /** ODDS and MEAN change THE FRACTION and nothing else. */
    private static void onlyTheFractionIsChanged() {
        Edge.says(34, "ODDS is THE FRACTION");
        GondolaTold x = Edge.rich();
        GondolaTold twin = Edge.rich();
        x.odds(1, 1, 7, 2);
        x.mean(2, 0, 9);
        x.odds(0, 0, 12, 3);
        Edge.same("back at the same fraction", x, twin);
    }

    // ---- THE FRACTION

    private static void theFractionAtFirst() {
        Edge.says(0, "THE FRACTION is 0 by 1 at first;");
        dueFraction("at first", new GondolaTold(), 0, 1);
    }

    private static void lowestTerms() {
        Edge.says(0, "lowest terms, below above 0.");
        GondolaTold x = Edge.water("water 6;canal 0 7 1;rower 0 5;guest 0 10;");
        long[][] odds = {{1, 1}, {9, 10}, {4, 5}, {7, 10}, {3, 5}, {1, 2}, {2, 5}, {3, 10}, {1, 5}, {1, 10}, {0, 1}};
        long[][] mean = {{5, 1}, {9, 2}, {4, 1}, {7, 2}, {3, 1}, {5, 2}, {2, 1}, {3, 2}, {1, 1}, {1, 2}, {0, 1}};
        for (int c = 0; c <= 10; c++) {
            dueOdds(x, 5, c, odds[c][0], odds[c][1]);
            dueMean(x, c, mean[c][0], mean[c][1]);
        }
    }

    private static void partAnswers() {
        Edge.says(37, "THE FRACTION: above (0), below (1).");
        GondolaTold x = Edge.water("water 6;canal 0 7 1;rower 0 5;guest 0 10;");
        x.odds(0, 0, 5, 4);
        Edge.due("part(0)", x.part(0), 3);
        Edge.due("part(1)", x.part(1), 5);
    }

    private static void partIsBad() {
        Edge.says(37, "BAD.");
        Edge.range("part(value)", Edge::rich, (x, v) -> x.part(v), 0, 1, -2);
    }

    // ---- NIGHTS

    /** What the nights come to, played by rows() and enters(). */
    private static int played(GondolaTold x, int seed, int n) {
        long drawn = seed;
        for (int i = 0; i < n; i++) {
            drawn = (drawn * 1103515245L + 12345L) % 2147483648L;
            int g = (int) (drawn / 65536 % 4);
            int r = (int) (drawn / 262144 % 3);
            int q = (int) (drawn / 1048576 % 8);
            boolean rowed = x.rows(g, r, q) >= 0;
            if (!rowed && g < x.count(2) && x.of(g, 4) == 7) {
                x.enters(g);
            }
        }
        return Integer.bitCount(x.count(3));
    }

    private static GondolaTold people(int rowers, int guests) {
        GondolaTold x = Edge.allCanals();
        for (int r = 0; r < rowers; r++) {
            x.rower(r == 0 ? 0 : 6 - r, 1);
        }
        for (int g = 0; g < guests; g++) {
            x.guest(g, 6 + 5 * g);
        }
        return x;
    }

    private static void dueNights(int rowers, int guests, int seed, int n) {
        Edge.due("nights(" + seed + ", " + n + "), " + rowers + " rowers, " + guests + " guests",
                people(rowers, guests).nights(seed, n), played(people(rowers, guests), seed, n));
    }

    private static void nightsBySeed() {
        Edge.says(0, "NIGHTS by a SEED (0 .. 999999), n (0 .. 60):");
        for (int seed : new int[] {0, 1, 999998, 999999}) {
            for (int n : new int[] {0, 1, 30, 59, 60}) {
                dueNights(3, 4, seed, n);
            }
        }
        Edge.range("nights(value, 5)", Edge::rich, (x, v) -> x.nights(v, 5), 0, 999999, -2);
        Edge.range("nights(5, value)", Edge::rich, (x, v) -> x.nights(5, v), 0, 60, -2);
    }

    /** By SEED 1 it is 1103527590 at first: GUEST 2, ROWER 0, PLACE 4. */
    private static void whatIsDrawn() {
        Edge.says(0, "X is SEED at first; n times X becomes X times 1103515245 and 12345, by 2147483648 what is left over:");
        GondolaTold x = Edge.water("water 6;canal 0 4 1;rower 0 9;guest 0 9;guest 0 9;guest 0 9;");
        Edge.due("no draw", x.nights(1, 0), 0);
        Edge.due("one draw", x.nights(1, 1), 1);
        GondolaTold other = Edge.water("water 6;canal 0 3 1;rower 0 9;guest 0 9;guest 0 9;guest 0 9;");
        Edge.due("not to place 3", other.nights(1, 1), 0);
        // By SEED 0 it is 12345 at first: all 0, so that one would be rowed from 0 to 0.
        Edge.due("nights(0, 1)", Edge.allCanals().nights(0, 1), 0);
        for (int seed = 3; seed < 1000000; seed += 99991) {
            dueNights(3, 4, seed, 45);
        }
    }

    /** X is 1806697686 by SEED 241, just above 1723 times 1048576, and 1709177484 by SEED 959, just below 1630 times. */
    private static void whatIsDrawnIsCut() {
        Edge.says(0, "to PLACE X by 1048576 (cut), by 8 left over");
        GondolaTold x = Edge.water("water 6;canal 0 3 1;rower 0 0;rower 0 9;guest 0 9;");
        Edge.due("GUEST 0 by ROWER 1 to PLACE 3", x.nights(241, 1), 1);
        GondolaTold y = Edge.water("water 6;canal 0 5 1;rower 0 9;guest 0 9;guest 0 9;guest 0 9;guest 0 9;");
        Edge.due("GUEST 3 by ROWER 0 to PLACE 5", y.nights(959, 1), 1);
    }

    private static void whoIsDrawn() {
        Edge.says(0, "GUEST X by 65536 (cut), by 4 left over, is ROWED by ROWER X by 262144 (cut), by 3 left over, to PLACE X by"
                + " 1048576 (cut), by 8 left over, if all are there and it CAN be;");
        for (int rowers = 0; rowers <= 3; rowers++) {
            for (int guests = 0; guests <= 4; guests++) {
                dueNights(rowers, guests, 4711 + rowers, 60);
                dueNights(rowers, guests, 990001 + guests, 33);
            }
        }
        GondolaTold few = Edge.water("water 6;canal 0 4 1;rower 0 9;guest 0 9;guest 0 9;");
        Edge.due("guest 2 is not there", few.nights(1, 1), 0);
        GondolaTold none = Edge.water("water 6;canal 0 4 1;guest 0 9;guest 0 9;guest 0 9;");
        Edge.due("rower 0 is not there", none.nights(1, 1), 0);
        // One who was there ahead of a water is not there any more.
        for (int seed = 1; seed < 40; seed++) {
            GondolaTold gone = Edge.water("water 6;rower 0 9;rower 0 9;rower 0 9;guest 0 9;");
            Edge.read(gone, "water 6;canal 0 1 1;canal 0 2 1;canal 0 4 1;canal 0 3 1;guest 0 9;guest 0 9;guest 0 9;guest 0 9;");
            Edge.due("no rower is there", gone.nights(seed, 60), 0);
            gone.rower(0, 0);
            Edge.due("one is there who tells nothing", gone.nights(seed, 60), 0);
        }
        GondolaTold cut = Edge.water("water 6;rower 0 9;guest 0 9;guest 0 9;guest 0 9;");
        Edge.due("there is no canal", cut.nights(1, 1), 0);
    }

    /** By SEED 5040 GUEST 0 by ROWER 2, who is not there, to PLACE 2, then by ROWER 0 to PLACE 1. */
    private static void oneGetsInAgain() {
        Edge.says(0, "else, if the GUEST is there and at THE SALUTE, one GETS IN again:");
        GondolaTold x = Edge.water("water 6;canal 0 7 1;canal 0 1 1;rower 0 5;guest 0 10;row 0 0 7;");
        Edge.due("one gets in", x.nights(5040, 1), 0);
        Edge.due("and is rowed", x.nights(5040, 2), 1);
        GondolaTold y = Edge.water("water 6;canal 0 7 1;canal 0 1 1;rower 0 5;guest 0 10;row 0 0 1;");
        Edge.due("one who is not at the Salute stays", y.nights(5040, 2), 0);
    }

    private static void howManyAreTold() {
        Edge.says(0, "how many are TOLD behind them.");
        GondolaTold x = Edge.water("water 6;canal 0 4 1;rower 0 9;guest 0 9;guest 0 9;guest 0 9;row 0 0 4;");
        Edge.due("who was told already counts", x.nights(1, 0), 1);
        Edge.due("and who is told then", x.nights(1, 1), 2);
        GondolaTold all = Edge.allCanals();
        all.rower(1, 9);
        all.rower(1, 9);
        all.rower(1, 9);
        for (int g = 0; g < 4; g++) {
            all.guest(0, 1);
        }
        Edge.due("all four", all.nights(7, 60), 4);
        Edge.due("no guests", Edge.allCanals().nights(7, 60), 0);
    }

    private static void nightsAnswers() {
        Edge.says(36, "NIGHTS.");
        Edge.leaves("nights(77, 60)", Edge::rich, x -> x.nights(77, 60), played(Edge.rich(), 77, 60));
        Edge.leaves("nights(77, 60)", Edge::full, x -> x.nights(77, 60), played(Edge.full(), 77, 60));
    }

    private static void nightsIsBad() {
        Edge.says(36, "BAD.");
        Edge.refuses("nights(-1, 0)", Edge::rich, x -> x.nights(-1, 0), -2, 0);
        Edge.refuses("nights(1000000, 0)", Edge::rich, x -> x.nights(1000000, 0), -2, 0);
        Edge.refuses("nights(0, -1)", Edge::rich, x -> x.nights(0, -1), -2, 0);
        Edge.refuses("nights(0, 61)", Edge::rich, x -> x.nights(0, 61), -2, 0);
    }
}
