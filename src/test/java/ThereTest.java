/** Promises 37 to 42: the fraction, images, what was refused, how many there are, the digest. */
public final class ThereTest {
    private static final int MAX = Integer.MAX_VALUE;
    private static final int MIN = Integer.MIN_VALUE;

    public static void main(String[] args) {
        part();
        image();
        from();
        status();
        count();
        digest();
        Check.end();
    }

    private static void part() {
        Check.promise(37);
        GondolaTold x = Check.water("water 6;canal 0 7 1;rower 0 5;guest 0 10;");
        Check.due("part(0)", x.part(0), 0);
        Check.due("part(1)", x.part(1), 1);
        x.odds(0, 0, 5, 4);
        Check.due("part(0)", x.part(0), 3);
        Check.due("part(1)", x.part(1), 5);
        Check.due("part(2)", x.part(2), -2);
        Check.due("part(-1)", x.part(-1), -2);
        Check.due("status(0)", x.status(0), 2);
        x.image(0);
        x.mean(0, 0, 0);
        x.from(0);
        Check.due("it stays with an image", x.part(0), 5);
        x.water(1);
        x.read();
        Check.due("it stays with a water", x.part(0), 5);
        Check.due("part(1)", x.part(1), 1);
    }

    private static void image() {
        Check.promise(38);
        GondolaTold x = Check.water("water 6;canal 0 7 1;rower 0 5;guest 0 10;");
        long before = x.digest();
        Check.due("image(0)", x.image(0), 1);
        Check.due("image(0): again", x.image(0), 1);
        Check.due("image(1)", x.image(1), 1);
        Check.due("image(2)", x.image(2), -2);
        Check.due("image(-1)", x.image(-1), -2);
        Check.due("image(MAX)", x.image(MAX), -2);
        Check.due("nothing is changed", x.digest(), before);
        x.dark(1, 1);
        x.image(1);
        x.from(0);
        Check.due("each keeps its own", x.about(1, 0), 6);
        x.from(1);
        Check.due("each keeps its own", x.about(1, 0), 1);
    }

    private static void from() {
        Check.promise(39);
        GondolaTold x = Check.water("water 6;canal 0 7 1;canal 0 1 1;rower 0 5;guest 0 10;");
        Check.due("from(-1)", x.from(-1), -2);
        Check.due("from(2)", x.from(2), -2);
        Check.due("from(0): none was kept", x.from(0), -3);
        x.rows(0, 0, 1);
        x.rows(0, 0, 0);
        x.seen(0, 1, 2, 3);
        x.note(0, 6, 5, 4, 3, 2);
        x.mark(0, 5, 4, 3, 2);
        long then = x.digest();
        x.image(1);
        Check.due("from(0): none was kept there", x.from(0), -3);
        x.undo();
        x.undo();
        x.forget(0);
        x.forget(1);
        x.forget(2);
        x.canal(2, 3, 4);
        x.rower(0, 1);
        x.guest(0, 1);
        x.dark(7, 1);
        Check.due("from(1)", x.from(1), 1);
        Check.due("digest()", x.digest(), then);
        Check.due("undo(): it keeps what may be undone", x.undo(), 1);
        Check.due("of(0, 2)", x.of(0, 2), 5);
        Check.due("undo()", x.undo(), 0);
        Check.due("of(0, 2)", x.of(0, 2), 0);
        x.rows(0, 0, 7);
        Check.due("from(1): as often as one likes", x.from(1), 1);
        Check.due("digest(): the image is no other for it", x.digest(), then);
        x.clear();
        x.type('a');
        x.water(1);
        x.from(1);
        Check.due("the text is not kept", x.count(10), 1);
        Check.due("nor is status", x.status(0) * 10 + x.status(1), 22);
    }

    private static void status() {
        Check.promise(40);
        GondolaTold x = new GondolaTold();
        for (int what = 0; what < 3; what++) {
            Check.due("status(" + what + ")", x.status(what), 0);
        }
        Check.due("status(3)", x.status(3), -1);
        Check.due("status(-1)", x.status(-1), -1);
        Check.due("status(MIN)", x.status(MIN), -1);
        Check.due("these count as BAD", x.status(0), 3);
        x.undo();
        Check.due("status(1)", x.status(1), 1);
        for (int i = 0; i < 5; i++) {
            x.rower(0, 1);
        }
        Check.due("status(2)", x.status(2), 2);
        Check.due("status(0)", x.status(0), 3);
        x.way(0, 0, 0);
        x.where(0, 0);
        x.share(0);
        x.lamp(0, 0, 0);
        Check.due("-10 counts as BAD", x.status(0), 7);
        x.read();
        x.far(0, 1);
        x.guest(0, 1);
        x.way(0, 0, 0);
        x.where(0, 0);
        x.share(0);
        x.lamp(0, 0, 16);
        x.would(0, 0, 1, 0);
        Check.due("NONE, -3, -4, -5 and faults do not", x.status(0) * 100 + x.status(1) * 10 + x.status(2), 712);
    }

    private static void count() {
        Check.promise(41);
        GondolaTold x = Check.water("water 2;canal 0 1 1;canal 1 7 1;canal 2 3 9;rower 0 5;rower 1 1;guest 1 5;guest 0 40;guest 0 10;");
        x.rows(0, 0, 1);
        x.rows(2, 0, 1);
        x.rows(2, 0, 7);
        x.rows(1, 0, 1);
        x.seen(0, 1, 1, 1);
        x.note(0, 1, 1, 1, 1, 1);
        x.note(0, 1, 1, 1, 1, 1);
        x.mark(0, 1, 1, 1, 1);
        x.mark(0, 1, 1, 1, 1);
        x.mark(0, 1, 1, 1, 1);
        int[] want = {3, 2, 3, 1 + 4, 20, 25, 1, 2, 3, 4, x.clear()};
        for (int i = 0; i < want[10]; i++) {
            x.type(i % 128);
        }
        for (int what = 0; what <= 10; what++) {
            Check.due("count(" + what + ")", x.count(what), want[what]);
        }
        Check.due("count(11)", x.count(11), -2);
        Check.due("count(-1)", x.count(-1), -2);
        Check.due("count(MAX)", x.count(MAX), -2);
        Check.due("status(0)", x.status(0), 3);
    }

    private static long fold(int... values) {
        long h = 1847;
        for (int v : values) {
            h = 31 * h + v;
        }
        return h;
    }

    private static void digest() {
        Check.promise(42);
        GondolaTold x = new GondolaTold();
        Check.due("digest(): a new object", x.digest(), fold(0, 0, 0, 0, 0, 0, 0, 0, 0, 0, 0, 3, 3, 3, 3, 3, 3, 3, 3,
                0, 0, 0, 0, 0, 0, 0, 0, 0, 0, 0, 0, 0, 0, 0, 0, 0, 0, 0, 0, 0, 0, 0, 0, 0, 0, 0, 0, 0, 1));
        x.canal(0, 1, 4);
        x.canal(7, 0, 5);
        x.canal(6, 7, 9);
        x.dark(2, 8);
        x.rower(0, 5);
        x.rower(3, 4);
        x.guest(1, 9);
        x.guest(2, 7);
        x.rows(0, 0, 7);
        x.seen(1, 2, 3, 4);
        x.note(1, 6, 5, 4, 3, 2);
        x.mark(0, 9, 8, 7, 6);
        x.type('a');
        x.odds(1, 0, 5, 4);
        x.undo();
        x.rows(0, 0, 7);
        x.digest();
        Check.due("digest(): one of each", x.digest(), fold(3, 2, 2, 0, 5, 10, 1, 1, 1, 1, 1, 3, 3, 8, 3, 3, 3, 3, 3,
                4, 0, 0, 0, 0, 0, 5, 0, 0, 0, 0, 0, 0, 0, 0, 0, 0, 0, 0, 0, 0, 0, 0, 0, 0, 0, 0, 9,
                0, 5, 3, 4, 1, 9, 5, 10, 7, 5, 2, 7, 0, 0, 0, 0, 1, 2, 3, 4, 1, 6, 5, 4, 3, 2, 0, 9, 8, 7, 6, 3, 5));
        Check.due("status(0)", x.status(0), 0);
    }
}
