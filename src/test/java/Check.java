/** Counts and prints what is not as due; used by the tests of the promises. */
final class Check {
    private static int made = 0;
    private static int wrong = 0;
    private static int promise = 0;

    private Check() {
    }

    static void promise(int number) {
        promise = number;
    }

    static void due(String call, long got, long want) {
        made++;
        if (got != want) {
            wrong++;
            System.out.println("promise " + promise + ": " + call + " answered " + got + ", due is " + want);
        }
    }

    /** Types a text and reads it. */
    static int read(GondolaTold x, String text) {
        x.clear();
        for (int i = 0; i < text.length(); i++) {
            x.type(text.charAt(i));
        }
        return x.read();
    }

    /** Makes a water by a text that must be right. */
    static GondolaTold water(String text) {
        GondolaTold x = new GondolaTold();
        if (read(x, text) < 0) {
            due("water(" + text + ")", -1, 1);
        }
        return x;
    }

    static void end() {
        System.out.println(made + " answers looked at, " + wrong + " not as due");
        if (wrong != 0) {
            System.exit(1);
        }
    }
}
