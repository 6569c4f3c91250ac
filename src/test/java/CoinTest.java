/** Promises 23 to 30: coin, and one stone. */
public final class CoinTest {
    public static void main(String[] args) {
        most();
        where();
        whereOfSeveral();
        mostAndWhereBeyond();
        out();
        reach();
        help();
        helpOfSeveral();
        frees();
        kind();
        kindByTall();
        till();
        tillLate();
        Check.end();
    }

    private static void wrongNumbers(String name, WallDown x, int... answers) {
        for (int answer : answers) {
            Check.due(name, answer, Check.BEYOND);
        }
    }

    /** Promise 23. */
    private static void most() {
        WallDown x = Check.house("stone 0 price 1;stone 0 price 100;stone 1 price 40;false 1;stone 3 price 30");
        int[] due = {0, 40, 101, 141, 171, 171, 171};
        for (int n = 0; n < due.length; n++) {
            Check.due("most(" + n + ")", x.most(n), due[n]);
        }
        Check.due("most(28)", x.most(28), 171);
        x.slack(4);
        Check.due("only what can be pulled", x.most(28), 0);
        Check.due("nothing is pulled", x.now(2), 0);
        WallDown y = new WallDown();
        for (int wall = 0; wall < 4; wall++) {
            for (int i = 0; i < 7; i++) {
                y.stone(4, wall, 1);
                y.set(wall, i, 2, 999);
            }
        }
        Check.due("the dearest house", y.most(28), 28 * 2008);
        Check.due("all but one", y.most(27), 27 * 2008);
    }

    /** Promise 24. */
    private static void where() {
        WallDown x = Check.house("stone 0 price 1;stone 0 price 100;stone 1 price 40;false 1;stone 3 price 30");
        int now = 2 + 16 + 512;
        int[] due = {now, now - 8, now - 2, now - 10, now - 10 - 512, now - 10 - 512};
        for (int n = 0; n < due.length; n++) {
            Check.due("where(" + n + ")", x.where(n), due[n]);
        }
        Check.due("the false one stays", x.where(28), 8);
        Check.due("nothing is pulled", x.now(5), now);
    }

    private static void whereOfSeveral() {
        WallDown x = Check.house("stone 0;stone 1;stone 2;stone 3");
        Check.due("the least of four", x.where(1), 1 + 8 + 64);
        Check.due("the least of six", x.where(2), 1 + 8);
        WallDown y = Check.house("false 0;false 1;stone 2 price 0");
        Check.due("by no coin: with most stones", y.where(28), 1 + 8 + 64);
        WallDown z = Check.house("false 0;stone 0 price 10;stone 2 price 10");
        Check.due("ten by one pull", z.where(1), 2);
        Check.due("ten by one, and by two with fewer stones", z.where(2), 2);
        Check.due("twenty by three", z.where(3), 0);
    }

    private static void mostAndWhereBeyond() {
        WallDown x = Check.house("stone 0");
        wrongNumbers("most", x, x.most(-1), x.most(29), x.most(Integer.MAX_VALUE), x.most(Integer.MIN_VALUE));
        wrongNumbers("where", x, x.where(-1), x.where(29), x.where(Integer.MAX_VALUE), x.where(Integer.MIN_VALUE));
        Check.due("status(0)", x.status(0), 8);
        Check.due("most(0)", x.most(0), 0);
        Check.due("where(0)", x.where(0), 1);
    }

    /** Promise 25. */
    private static void out() {
        WallDown x = Check.house("stone 0;key 0;stone 1;stone 1;stone 1;slack 99");
        Check.due("the lowest", x.out(0, 0), 1);
        Check.due("a key that waits for two", x.out(0, 1), 4);
        Check.due("two of wall 1", x.out(1, 1), 2);
        Check.due("all of wall 1", x.out(1, 2), 3);
        x.slack(4);
        Check.due("can't be", x.out(1, 2), Check.NONE);
        Check.due("can't be", x.out(0, 0), Check.NONE);
        Check.due("status(3)", x.status(3), 2);
        Check.due("the only stone", Check.house("stone 3").out(3, 0), 1);
        wrongNumbers("out", x, x.out(-1, 0), x.out(4, 0), x.out(0, 2), x.out(0, -1), x.out(2, 0));
        Check.due("nothing is pulled", x.now(5), 26);
    }

    /** Promise 26. */
    private static void reach() {
        WallDown x = Check.house("stone 0 high 5;stone 0 high 5;stone 0 high 30;stone 1 high 5;slack 10;beam 1 off");
        x.wedge(1, 20);
        x.wedge(0, 0);
        // Tops are 40 and 25; then 35, 30 and 0, and 20.
        Check.due("two of three", x.reach(0), 2);
        Check.due("one of one", x.reach(1), 1);
        x.slack(9);
        Check.due("none", x.reach(1), 0);
        Check.due("none", x.reach(0), 0);
        Check.due("an empty wall", x.reach(2), 0);
        x.slack(99);
        Check.due("all", x.reach(0), 3);
        Check.due("the only stone", Check.house("stone 3").reach(3), 1);
        wrongNumbers("reach", x, x.reach(-1), x.reach(4));
    }

    /** Promise 27. */
    private static void help() {
        WallDown x = Check.house("stone 0 high 9;slack 5;beam 1 off;beam 2 off");
        Check.due("it can go", x.stands(), 2);
        Check.due("nothing helps", x.help(), Check.NONE);
        WallDown y = Check.house("stone 0 high 9;wedge 1 20;slack 5;beam 1 off;beam 2 off");
        Check.due("it can't go", y.stands(), 1);
        // Out, it leaves wedge 0 and wedge 1: these must be unlike by 5 at most.
        Check.due("wedge 15 under wall 0", y.help(), 15);
        Check.due("nothing is set", y.wallOf(0, 1), 0);
        Check.due("nothing is set", y.wallOf(1, 1), 20);
        y.wedge(0, 20);
        y.wedge(1, 0);
        Check.due("less than it has", y.help(), 1);
        WallDown z = Check.house("stone 2 high 9;wedge 3 20;slack 5;beam 0 off;beam 1 off");
        Check.due("wedge 15 under wall 2", z.help(), 215);
        z.beam(1, true);
        Check.due("wall 1 stays at 0", z.help(), 301);
        WallDown u = Check.house("stone 0 high 9;wedge 1 20;slack 0;beam 1 off;beam 2 off");
        Check.due("just twenty", u.help(), 20);
        WallDown v = new WallDown();
        Check.due("no stones", v.help(), Check.NONE);
        Check.due("status(3)", v.status(3), 1);
    }

    private static void helpOfSeveral() {
        WallDown x = Check.house("stone 0 high 8;stone 1 high 8;stone 1 high 8;slack 7;beam 1 off;beam 2 off");
        // Tops are 8 and 16: 8 of wall 1 can go, then none. A wedge of 1 under wall 0 lets all go:
        // 9 8, 1 8, 1 0; so does one of 2 to 7, and more under wall 1.
        Check.due("stands", x.stands(), 2);
        Check.due("help", x.help(), 1);
        x.wedge(0, 1);
        Check.due("stands", x.stands(), 4);
        Check.due("no other is better", x.help(), Check.NONE);
    }

    /** Promise 28. */
    private static void frees() {
        WallDown x = Check.house("stone 0 high 20;stone 3 high 20;stone 3 high 20;slack 19");
        Check.due("stands", x.stands(), 1);
        Check.due("beam 2", x.frees(), 2);
        Check.due("nothing is taken off", x.now(3), 7);
        x.beam(2, false);
        Check.due("wall 0 goes first", x.stands(), 4);
        Check.due("then beam 0", x.frees(), 0);
        x.beam(0, false);
        Check.due("all go", x.stands(), 6);
        Check.due("no beam more", x.frees(), Check.NONE);
        WallDown y = Check.house("stone 0 high 20;stone 1 high 20;stone 2 high 20;stone 3 high 20;slack 19");
        y.beam(2, false);
        y.beam(1, false);
        Check.due("the only one that lies", y.frees(), 0);
        WallDown z = Check.house("stone 1 high 20;stone 2 high 20;slack 19");
        Check.due("one alone doesn't help", z.frees(), Check.NONE);
        Check.due("status(3)", z.status(3), 1);
        WallDown v = Check.house("stone 0 high 20;stone 1 high 20;stone 2 high 20;stone 3 high 20;slack 19");
        // Without beam 0 wall 0 can go, without beam 2 wall 3; without beam 1 none.
        Check.due("the least of two", v.frees(), 0);
    }

    /** Promise 29. */
    private static void kind() {
        WallDown x = Check.house("key 0;stone 1;stone 1;slack 99");
        Check.due("stands with the key", x.stands(), 5);
        Check.due("a stone is freest", x.kind(0), 0);
        Check.due("nothing is turned", x.of(0, 0, 0), 1);
        Check.due("no stone", x.kind(2), Check.STATE);
        Check.due("no wall", x.kind(-1), Check.BEYOND);
        Check.due("no wall", x.kind(4), Check.BEYOND);
        Check.due("status(4)", x.status(4), 1);
    }

    private static void kindByTall() {
        WallDown x = Check.house("stone 0 high 9;stone 1 high 9;slack 8;beam 1 off");
        Check.due("neither can go", x.stands(), 1);
        // As FALSE it measures 4, and 9 beside nothing can't be; but when wall 1 is out 4 stays.
        Check.due("false", x.kind(0), 5);
        x.nights(1);
        // As ROTTEN it measures 8 now.
        Check.due("rotten", x.kind(0), 2);
        x.turn(0, 0, 2);
        Check.due("rotten, though it is", x.kind(0), 2);
        Check.due("it stays", x.of(0, 0, 0), 2);
    }

    /** Promise 30. */
    private static void till() {
        WallDown x = Check.house("rotten 0 high 9;stone 1 high 9;slack 8;beam 1 off");
        // Wall 1 can go first from night 1 on, when the rotten one is 8 or less.
        Check.due("at the end of all", x.till(), 60);
        x.slack(0);
        Check.due("no night", x.till(), Check.NONE);
        WallDown y = Check.house("rotten 0 high 9;rotten 0 high 9;stone 1 high 9;stone 1 high 9;slack 9;beam 1 off");
        // Wall 1 must never be 9 above wall 0, which is lower each night.
        Check.due("till", y.till(), 60);
        Check.due("night stays", y.now(0), 0);
        Check.due("status(3)", x.status(3), 1);
        WallDown z = Check.house("stone 0 high 1;rotten 0 high 9;key 1 high 12;slack 8;beam 1 off");
        // The key waits for one of wall 0, and must then be 8 above the rotten one at most.
        Check.due("the fifth night", z.till(), 5);
        z.nights(2);
        Check.due("the fifth night still", z.till(), 5);
        z.nights(3);
        Check.due("this night", z.till(), 5);
        z.nights(1);
        Check.due("too late", z.till(), Check.NONE);
    }

    private static void tillLate() {
        WallDown x = Check.house("stone 0;stone 1");
        for (int i = 0; i < 10; i++) {
            x.nights(99);
        }
        x.nights(9);
        Check.due("whatever it comes to", x.till(), 1059);
        Check.due("night stays", x.now(0), 999);
    }
}
