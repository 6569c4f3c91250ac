/** Compares answers with those that are due, and ends a test with exit code 1 if one is not. */
final class Check {
    static final int BEYOND = -1000000001;
    static final int FULL = -1000000002;
    static final int KIND = -1000000003;
    static final int NONE = -1000000004;
    static final int STATE = -1000000005;
    static final int MISSING = -1000000006;
    static final int SIZE = -1000000007;

    private static int asked = 0;
    private static int wrong = 0;

    private Check() {
    }

    static void due(String call, long got, long want) {
        asked++;
        if (got != want) {
            wrong++;
            System.out.println(call + " answered " + got + ", due is " + want);
        }
    }

    static void that(String what, boolean holds) {
        asked++;
        if (!holds) {
            wrong++;
            System.out.println("does not hold: " + what);
        }
    }

    /** Puts a text on the tape. */
    static void feed(WallDown x, String text) {
        for (int i = 0; i < text.length(); i++) {
            due("feed of " + text, x.feed(text.charAt(i), 1), i + 1);
        }
    }

    /** What house() answers to a text. */
    static int told(WallDown x, String text) {
        feed(x, text);
        return x.house();
    }

    /** A house told in a text that has no fault. */
    static WallDown house(String... texts) {
        WallDown x = new WallDown();
        for (String text : texts) {
            int items = told(x, text);
            that("no fault in " + text, items > 0);
        }
        return x;
    }

    /** All that can be asked of an object without changing it, but for the sheets. */
    static String picture(WallDown x) {
        StringBuilder all = new StringBuilder();
        for (int what = 0; what < 8; what++) {
            all.append(x.now(what)).append(' ');
        }
        for (int wall = 0; wall < 4; wall++) {
            all.append("| ").append(x.wallOf(wall, 1)).append(' ');
            for (int i = 0; i < x.wallOf(wall, 0); i++) {
                for (int what = 0; what < 6; what++) {
                    all.append(x.of(wall, i, what)).append(' ');
                }
            }
        }
        return all.append("| ").append(x.count(1)).toString();
    }

    static void end() {
        System.out.println(asked + " answers asked, " + wrong + " not as due");
        if (wrong != 0) {
            System.exit(1);
        }
    }
}
