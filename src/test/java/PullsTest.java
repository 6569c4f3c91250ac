/** Promises 13 to 22: pulls, stands and rows. */
public final class PullsTest {
    public static void main(String[] args) {
        pull();
        pullSafeBehind();
        pullPurse();
        pulls();
        can();
        stands();
        least();
        ways();
        waysOfAFullHouse();
        first();
        bring();
        slackFor();
        slackAll();
        Check.end();
    }

    /** Each stand that there isn't, asked of each call that takes one. */
    private static void noSuchStands(WallDown x, int... wrong) {
        String before = Check.picture(x);
        int findings = x.status(0);
        for (int stand : wrong) {
            Check.due("can(" + stand + ")", x.can(stand), Check.BEYOND);
            Check.due("ways(" + stand + ")", x.ways(stand), Check.BEYOND);
            Check.due("first(" + stand + ")", x.first(stand), Check.BEYOND);
            Check.due("bring(" + stand + ")", x.bring(stand), Check.BEYOND);
            Check.due("slackFor(" + stand + ")", x.slackFor(stand), Check.BEYOND);
        }
        Check.due("status(0)", x.status(0), findings + 5 * wrong.length);
        Check.that("nothing is changed", Check.picture(x).equals(before));
    }

    /** Promise 13. */
    private static void pull() {
        WallDown x = Check.house("stone 1 high 7 price 3;rotten 1 high 9 price 8;key 0 high 2");
        x.nights(4);
        Check.due("key under more", x.pull(0), Check.STATE);
        Check.due("nothing is pulled", x.now(5), 17);
        Check.due("pull", x.pull(1), 7);
        Check.due("purse", x.now(2), 3);
        Check.due("the next is the lowest", x.of(1, 0, 0) * 100 + x.of(1, 0, 1) * 10 + x.of(1, 0, 2), 298);
        Check.due("key beside as many", x.pull(0), 2);
        Check.due("purse", x.now(2), 18);
        Check.due("rotten", x.pull(1), 5);
        Check.due("purse", x.now(2), 22);
        Check.due("no stone", x.pull(1), Check.STATE);
        Check.due("no wall", x.pull(-1), Check.BEYOND);
        Check.due("no wall", x.pull(4), Check.BEYOND);
        Check.due("status(4)", x.status(4), 2);
        Check.due("status(0)", x.status(0), 2);
    }

    private static void pullSafeBehind() {
        WallDown x = Check.house("stone 0 high 11;stone 0 high 1;slack 11");
        Check.due("unsafe ahead", x.now(7), 0);
        Check.due("safe behind", x.pull(0), 11);
        Check.due("safe", x.now(7), 1);
        WallDown y = Check.house("stone 0 high 5;stone 1 high 5;slack 4");
        Check.due("unsafe behind", y.pull(0), Check.STATE);
        Check.due("purse stays", y.now(2), 0);
        y.slack(5);
        Check.due("just as unlike as may be", y.pull(0), 5);
        WallDown z = Check.house("stone 0 high 5;stone 3 high 12");
        Check.due("unsafe under another beam", z.pull(0), Check.STATE);
        z.beam(2, false);
        Check.due("which is off now", z.pull(0), 5);
        WallDown v = Check.house("through 0;stone 1;stone 1;slack 99");
        Check.due("through under more", v.pull(0), Check.STATE);
        v.pull(1);
        Check.due("through beside as many", v.pull(0), 5);
    }

    /** The dearest stones of four full walls; more than 999999 no 512 calls can bring. */
    private static void pullPurse() {
        WallDown x = new WallDown();
        for (int wall = 0; wall < 4; wall++) {
            for (int i = 0; i < 7; i++) {
                x.stone(4, wall, 1);
                x.set(wall, i, 2, 999);
            }
        }
        for (int i = 0; i < 28; i++) {
            Check.due("pull", x.pull(i % 4), 1);
            Check.due("purse", x.now(2), 2008 * (i + 1));
        }
    }

    /** Promise 14. */
    private static void pulls() {
        WallDown x = Check.house("key 0;stone 1;stone 1;stone 2;stone 3");
        Check.due("pulls", x.pulls(), 14);
        x.slack(4);
        Check.due("only that by which all is safe", x.pulls(), 2);
        x.beam(0, false);
        x.beam(1, false);
        Check.due("with one beam", x.pulls(), 2);
        x.beam(2, false);
        Check.due("with none", x.pulls(), 14);
        Check.due("none to pull", new WallDown().pulls(), 0);
        for (int wall = 0; wall < 4; wall++) {
            WallDown y = new WallDown();
            y.stone(0, wall, 5);
            Check.due("one wall", y.pulls(), 1 << wall);
        }
    }

    /** Promise 15. */
    private static void can() {
        WallDown x = Check.house("stone 0;stone 0;stone 1;stone 1;slack 5;beam 1 off");
        Check.due("that which is now", x.can(18), 1);
        Check.due("one out", x.can(17), 1);
        Check.due("two out of one", x.can(16), 0);
        Check.due("one of each", x.can(9), 1);
        Check.due("all", x.can(0), 1);
        Check.due("nothing is pulled", x.now(5), 18);
        noSuchStands(x, -1, 3, 19, 26, 24, 64, 512, 4095, 4096, 4096 + 18, Integer.MAX_VALUE, Integer.MIN_VALUE);
        WallDown y = Check.house("stone 0 high 20;stone 0 high 20;slack 0");
        Check.due("unsafe now, yet it is", y.can(2), 1);
        Check.due("not by an unsafe one", y.can(0), 0);
        Check.due("unsafe behind", y.can(1), 0);
        WallDown z = Check.house("rotten 0 high 9;stone 1 high 1;slack 1");
        Check.due("in this night", z.can(1), 0);
        z.nights(8);
        Check.due("in another night", z.can(1), 1);
    }

    /** Promise 16. */
    private static void stands() {
        WallDown x = Check.house("stone 0;stone 0;stone 1;stone 1;slack 5;beam 1 off");
        Check.due("stands", x.stands(), 7);
        x.slack(4);
        Check.due("only that which is now", x.stands(), 1);
        x.slack(10);
        Check.due("all", x.stands(), 9);
        WallDown y = full();
        Check.due("all of a full house", y.stands(), 4096);
    }

    private static WallDown full() {
        WallDown x = new WallDown();
        for (int wall = 0; wall < 4; wall++) {
            for (int i = 0; i < 7; i++) {
                x.stone(0, wall, 14);
            }
        }
        x.slack(98);
        return x;
    }

    /** Promise 17. (That several have fewest stones can't be: no pull ever bars another one.) */
    private static void least() {
        WallDown x = Check.house("stone 0 high 20;stone 1 high 20;stone 2 high 20;slack 20;beam 2 off");
        Check.due("all out", x.least(), 0);
        x.slack(19);
        Check.due("none out", x.least(), 73);
        WallDown y = Check.house("stone 0 high 5;stone 0 high 30;stone 1 high 5;stone 1 high 30;slack 5;beam 1 off");
        Check.due("one of each", y.least(), 9);
        WallDown z = Check.house("stone 0 high 5;stone 0 high 30;stone 1 high 30;slack 5;beam 1 off");
        Check.due("one out", z.least(), 9);
        Check.due("nothing is pulled", z.now(5), 10);
        WallDown v = Check.house("key 0;key 0;key 0;beam 0 off;beam 1 off;beam 2 off;stone 1;stone 3;stone 3");
        Check.due("all", v.least(), 0);
        WallDown u = Check.house("stone 3 high 30;stone 3 high 30;stone 3 high 30;stone 2;slack 29");
        Check.due("none can be pulled", u.least(), 512 * 3 + 64);
    }

    /** Promise 18. */
    private static void ways() {
        WallDown x = Check.house("stone 0;stone 0;stone 1;stone 1;slack 99;beam 1 off");
        Check.due("to now", x.ways(18), 1);
        Check.due("one", x.ways(17), 1);
        Check.due("one of each", x.ways(9), 2);
        Check.due("all", x.ways(0), 6);
        x.slack(5);
        Check.due("all, evenly", x.ways(0), 4);
        Check.due("none", x.ways(16), 0);
        x.turn(0, 0, 1);
        Check.due("a key among as many", x.ways(9), 2);
        x.slack(99);
        x.turn(0, 1, 4);
        Check.due("a carved one waits", x.ways(16), 0);
        Check.due("it waits once", x.ways(8), 2);
        Check.due("all in as many orders", x.ways(0), 5);
        Check.due("to now, still", x.ways(18), 1);
    }

    private static void waysOfAFullHouse() {
        WallDown x = full();
        Check.due("all orders", x.ways(0), 472518347558400L);
        Check.due("of two walls", x.ways(63 * 64), 3432);
    }

    /** Promise 19. */
    private static void first() {
        WallDown x = Check.house("stone 0;stone 0;stone 1;stone 1;stone 2;stone 3;slack 99");
        Check.due("now", x.first(x.now(5)), Check.NONE);
        Check.due("wall 0 before all", x.first(0), 0);
        Check.due("only wall 1", x.first(x.now(5) - 8), 1);
        Check.due("only wall 3", x.first(x.now(5) - 512), 3);
        Check.due("walls 2 and 3", x.first(x.now(5) - 576), 2);
        x.slack(0);
        Check.due("none does", x.first(0), Check.NONE);
        Check.due("status(3)", x.status(3), 2);
        WallDown y = Check.house("key 0;stone 1;stone 1;slack 99");
        Check.due("the key waits", y.first(0), 1);
        Check.due("nothing is pulled", y.now(5), 17);
        WallDown z = Check.house("stone 0 high 5;stone 1 high 8;slack 6;beam 1 off");
        Check.due("wall 0 would leave 8", z.first(0), 1);
        Check.due("wall 0 alone", z.first(8), Check.NONE);
    }

    /** Promise 20. */
    private static void bring() {
        WallDown x = Check.house("stone 0 price 7;carved 1 price 9;rotten 1 price 9;slack 10;stone 2;stone 3");
        Check.due("to now", x.bring(x.now(5)), 0);
        Check.due("bring", x.bring(x.now(5) - 9), 2);
        Check.due("stand", x.now(5), 8 + 64 + 512);
        Check.due("purse", x.now(2), 35);
        Check.due("left", x.of(1, 0, 0), 2);
        x.slack(0);
        String before = Check.picture(x);
        Check.due("it can't be", x.bring(512), Check.STATE);
        Check.that("nothing is changed", Check.picture(x).equals(before));
        Check.due("status(4)", x.status(4), 1);
        x.slack(99);
        Check.due("the whole", x.bring(0), 3);
        Check.due("stand", x.now(5), 0);
        Check.due("purse", x.now(2), 35 + 4 + 20);
        WallDown y = full();
        Check.due("a full house", y.bring(0), 28);
        Check.due("purse", y.now(2), 280);
    }

    /** Promise 21. */
    private static void slackFor() {
        WallDown x = Check.house("stone 0 high 9;stone 0 high 3;stone 1 high 7;stone 1 high 6;slack 0");
        Check.due("now", x.slackFor(18), 0);
        // Tops are 12 and 13; then 3, 12 or 0, and 13, 6 or 0.
        x.beam(1, false);
        Check.due("9 out", x.slackFor(17), 10);
        Check.due("7 out", x.slackFor(10), 6);
        Check.due("9 and 7 out", x.slackFor(9), 6);
        Check.due("12 out", x.slackFor(16), 13);
        Check.due("all out", x.slackFor(0), 6);
        Check.due("slack stays", x.now(1), 0);
        WallDown y = Check.house("stone 0 high 30;stone 0 high 30;stone 0 high 30;stone 0 high 9;stone 1 high 1");
        Check.due("just 99", y.slackFor(4), 99);
        y.set(0, 3, 1, 10);
        Check.due("100 is too much", y.slackFor(4), Check.NONE);
        Check.due("now, though unsafe", y.slackFor(12), 0);
        WallDown z = Check.house("key 0;key 0;stone 1;stone 1;stone 1;slack 99");
        Check.due("by no slack", z.slackFor(25), Check.NONE);
        Check.due("status(3)", z.status(3), 1);
    }

    /** Promise 22. */
    private static void slackAll() {
        WallDown x = Check.house("stone 0 high 9;stone 1 high 7;beam 1 off;slack 0");
        Check.due("the lower first", x.slackAll(), 7);
        x.wedge(0, 20);
        Check.due("wedges stay", x.slackAll(), 20);
        x.beam(0, false);
        x.beam(2, false);
        Check.due("without beams", x.slackAll(), 0);
        WallDown y = Check.house("through 0;stone 1;key 1;stone 1;slack 0;beam 1 off;beam 0 off");
        Check.due("through waits", y.slackAll(), 0);
        WallDown z = Check.house("key 0;stone 0;key 1;key 1;stone 1");
        Check.due("keys", z.slackAll(), 10);
        WallDown v = Check.house("stone 3 high 30;stone 3 high 30;stone 3 high 30;stone 3 high 30;stone 3 high 9");
        Check.due("just 99", v.slackAll(), 99);
        v.set(3, 4, 1, 10);
        Check.due("by no slack", v.slackAll(), Check.NONE);
        Check.due("status(3)", v.status(3), 1);
        Check.due("slack stays", v.now(1), 10);
        WallDown u = new WallDown();
        for (int wall = 0; wall < 2; wall++) {
            for (int i = 0; i < 4; i++) {
                u.stone(0, wall, 30);
            }
        }
        u.stone(0, 0, 30);
        u.beam(1, false);
        Check.due("thirty at once", u.slackAll(), 30);
        u.wedge(0, 20);
        Check.due("with a wedge", u.slackAll(), 20);
    }
}
