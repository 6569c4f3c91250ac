/** Promises 1 to 12: a new object; walls and stones. */
public final class WallsTest {
    public static void main(String[] args) {
        newObject();
        stone();
        stoneBeyond();
        wallOf();
        tallOfKinds();
        coinOfKinds();
        keyMayGo();
        throughMayGo();
        mayGoAsIfLowest();
        set();
        turn();
        as();
        wedge();
        slack();
        beam();
        nights();
        nightsAtTheEnd();
        now();
        Check.end();
    }

    /** Promise 1. */
    private static void newObject() {
        WallDown x = new WallDown();
        int[] now = {0, 10, 0, 7, 0, 0, 0, 1};
        for (int what = 0; what < 8; what++) {
            Check.due("new: now(" + what + ")", x.now(what), now[what]);
        }
        for (int wall = 0; wall < 4; wall++) {
            for (int what = 0; what < 4; what++) {
                Check.due("new: wallOf(" + wall + ", " + what + ")", x.wallOf(wall, what), 0);
            }
        }
        for (int what = 0; what < 4; what++) {
            Check.due("new: count(" + what + ")", x.count(what), 0);
        }
        Check.due("new: wipe()", x.wipe(), 0);
        Check.due("new: tear()", x.tear(), 0);
        Check.due("new: status(-1)", x.status(-1), 0);
        Check.due("new: undo()", x.undo(), Check.NONE);
        for (int s = 0; s < 4; s++) {
            Check.due("new: lays(" + s + ")", x.lays(s), Check.MISSING);
        }
    }

    /** Promise 2. */
    private static void stone() {
        WallDown x = new WallDown();
        for (int wall = 0; wall < 4; wall++) {
            for (int i = 0; i < 7; i++) {
                Check.due("stone", x.stone(i % 6, wall, i == 0 ? 1 : 24 + i), i);
            }
            Check.due("stone on a full wall", x.stone(0, wall, 5), Check.FULL);
            Check.due("stone, FULL asked last", x.stone(6, wall, 5), Check.BEYOND);
            Check.due("the full wall", x.wallOf(wall, 0), 7);
        }
        for (int wall = 0; wall < 4; wall++) {
            for (int i = 0; i < 7; i++) {
                Check.due("kind", x.of(wall, i, 0), i % 6);
                Check.due("high", x.of(wall, i, 1), i == 0 ? 1 : 24 + i);
                Check.due("price", x.of(wall, i, 2), 10);
            }
        }
        Check.due("all stones", x.now(4), 28);
        Check.due("the greatest stand", x.now(5), 4095);
        Check.due("room below", x.wedge(0, 0), 0);
        x.slack(99);
        x.beam(0, false);
        Check.due("pull", x.pull(0), 1);
        Check.due("stone where one was pulled", x.stone(5, 0, 9), 6);
        Check.due("its kind", x.of(0, 6, 0), 5);
        Check.due("the lowest one", x.of(0, 0, 0), 1);
    }

    private static void stoneBeyond() {
        WallDown x = new WallDown();
        int[][] wrong = {{-1, 0, 5}, {6, 0, 5}, {0, -1, 5}, {0, 4, 5}, {0, 0, 0}, {0, 0, 31}, {0, 0, -5},
            {Integer.MIN_VALUE, 0, 5}, {0, Integer.MAX_VALUE, 5}, {0, 0, Integer.MAX_VALUE}};
        String before = Check.picture(x);
        for (int[] w : wrong) {
            Check.due("stone(" + w[0] + ", " + w[1] + ", " + w[2] + ")", x.stone(w[0], w[1], w[2]), Check.BEYOND);
        }
        Check.that("nothing is changed", Check.picture(x).equals(before));
        Check.due("status(0)", x.status(0), wrong.length);
        Check.due("least high", x.stone(0, 0, 1), 0);
        Check.due("most high", x.stone(0, 0, 30), 1);
    }

    /** Promise 3. */
    private static void wallOf() {
        WallDown x = Check.house("stone 2 high 7 price 100;carved 2 high 3 price 1;rotten 2 high 9 price 7;wedge 2 4");
        Check.due("how many", x.wallOf(2, 0), 3);
        Check.due("wedge", x.wallOf(2, 1), 4);
        Check.due("top", x.wallOf(2, 2), 23);
        Check.due("coin", x.wallOf(2, 3), 115);
        x.nights(5);
        Check.due("top after five nights", x.wallOf(2, 2), 18);
        Check.due("another wall", x.wallOf(1, 2), 0);
        int[][] wrong = {{-1, 0}, {4, 0}, {0, -1}, {0, 4}, {4, 4}};
        for (int[] w : wrong) {
            Check.due("wallOf(" + w[0] + ", " + w[1] + ")", x.wallOf(w[0], w[1]), Check.BEYOND);
        }
    }

    /** Promise 4, and TALL. */
    private static void tallOfKinds() {
        int[][] tall = {
            // high, night, then each kind
            {9, 0, 9, 9, 9, 9, 9, 4},
            {9, 3, 9, 9, 6, 9, 9, 3},
            {9, 8, 9, 9, 1, 9, 9, 0},
            {9, 9, 9, 9, 1, 9, 9, 0},
            {9, 99, 9, 9, 1, 9, 9, 0},
            {1, 0, 1, 1, 1, 1, 1, 0},
            {2, 0, 2, 2, 2, 2, 2, 1},
            {30, 29, 30, 30, 1, 30, 30, 0},
            {30, 28, 30, 30, 2, 30, 30, 1},
        };
        for (int[] t : tall) {
            WallDown x = new WallDown();
            for (int kind = 0; kind < 6; kind++) {
                x.stone(kind, 1, t[0]);
            }
            if (t[1] > 0) {
                x.nights(t[1]);
            }
            int top = 0;
            for (int kind = 0; kind < 6; kind++) {
                Check.due("TALL of kind " + kind + ", high " + t[0] + ", night " + t[1], x.of(1, kind, 3), t[2 + kind]);
                top += t[2 + kind];
            }
            Check.due("TOP", x.wallOf(1, 2), top);
        }
        WallDown x = Check.house("stone 1");
        int[][] wrong = {{-1, 0, 0}, {4, 0, 0}, {1, -1, 0}, {1, 1, 0}, {0, 0, 0}, {1, 0, -1}, {1, 0, 6},
            {1, Integer.MIN_VALUE, 0}, {1, Integer.MAX_VALUE, 0}};
        for (int[] w : wrong) {
            Check.due("of(" + w[0] + ", " + w[1] + ", " + w[2] + ")", x.of(w[0], w[1], w[2]), Check.BEYOND);
        }
        Check.due("status(0)", x.status(0), wrong.length);
    }

    private static void coinOfKinds() {
        int[][] coin = {{10, 10, 15, 5, 10, 30, 0}, {0, 0, 5, 0, 0, 10, 0}, {999, 999, 1004, 499, 999, 2008, 0},
            {7, 7, 12, 3, 7, 24, 0}};
        for (int[] c : coin) {
            WallDown x = new WallDown();
            int all = 0;
            for (int kind = 0; kind < 6; kind++) {
                x.stone(kind, 3, 5);
                Check.due("set", x.set(3, kind, 2, c[0]), 10);
                Check.due("COIN of kind " + kind + ", price " + c[0], x.of(3, kind, 4), c[1 + kind]);
                all += c[1 + kind];
            }
            Check.due("COIN of all", x.wallOf(3, 3), all);
        }
    }

    private static void keyMayGo() {
        for (int kind = 1; kind <= 4; kind += 3) {
            WallDown x = new WallDown();
            x.stone(kind, 1, 5);
            Check.due("none beside", x.of(1, 0, 5), 1);
            x.stone(0, 0, 5);
            x.stone(0, 2, 5);
            Check.due("as many beside", x.of(1, 0, 5), 1);
            x.stone(0, 2, 5);
            Check.due("more after it", x.of(1, 0, 5), 0);
            x.stone(0, 1, 5);
            Check.due("as many again", x.of(1, 0, 5), 1);
            x.stone(0, 0, 5);
            x.stone(0, 0, 5);
            Check.due("more before it", x.of(1, 0, 5), 0);
            WallDown y = new WallDown();
            y.stone(kind, 0, 5);
            y.stone(kind, 3, 5);
            y.stone(0, 1, 5);
            y.stone(0, 2, 5);
            Check.due("wall 0, as many", y.of(0, 0, 5), 1);
            Check.due("wall 3, as many", y.of(3, 0, 5), 1);
            y.stone(0, 1, 5);
            Check.due("wall 0, more", y.of(0, 0, 5), 0);
            Check.due("wall 3, not beside", y.of(3, 0, 5), 1);
            y.stone(0, 2, 5);
            Check.due("wall 3, more", y.of(3, 0, 5), 0);
        }
        int[] free = {0, 2, 5};
        for (int kind : free) {
            WallDown x = Check.house("stone 0;stone 0;stone 2;stone 2");
            x.stone(kind, 1, 5);
            Check.due("always", x.of(1, 0, 5), 1);
        }
    }

    private static void throughMayGo() {
        WallDown x = Check.house("through 1;stone 0;stone 0;stone 0;stone 2");
        Check.due("more before it is nothing", x.of(1, 0, 5), 1);
        x.stone(0, 2, 5);
        Check.due("more after it", x.of(1, 0, 5), 0);
        x.stone(3, 3, 5);
        Check.due("none after wall 3", x.of(3, 0, 5), 1);
        x.turn(0, 0, 3);
        Check.due("wall 0", x.of(0, 0, 5), 1);
        WallDown y = Check.house("stone 2;stone 2;through 3;through 0;stone 1;stone 1");
        Check.due("wall 3, more before it", y.of(3, 0, 5), 1);
        Check.due("wall 0, more after it", y.of(0, 0, 5), 0);
    }

    private static void mayGoAsIfLowest() {
        WallDown x = Check.house("stone 0;stone 0;stone 1;stone 1;key 1;carved 1;through 1;stone 2;stone 2;stone 2");
        String before = Check.picture(x);
        Check.due("the number of stones is that of the whole wall", x.of(1, 2, 5), 1);
        Check.due("carved", x.of(1, 3, 5), 1);
        Check.due("through", x.of(1, 4, 5), 1);
        Check.due("nothing is turned", x.of(1, 0, 0), 0);
        Check.that("nothing is changed", Check.picture(x).equals(before));
    }

    /** Promise 5. */
    private static void set() {
        WallDown x = Check.house("stone 1;rotten 1 high 9 price 40");
        Check.due("high", x.set(1, 1, 1, 30), 9);
        Check.due("high again", x.set(1, 1, 1, 1), 30);
        Check.due("it is", x.of(1, 1, 1), 1);
        Check.due("price", x.set(1, 1, 2, 999), 40);
        Check.due("price again", x.set(1, 1, 2, 0), 999);
        Check.due("it is", x.of(1, 1, 2), 0);
        Check.due("the other one", x.of(1, 0, 1) * 1000 + x.of(1, 0, 2), 5010);
        int[][] wrong = {{-1, 0, 1, 5}, {4, 0, 1, 5}, {1, -1, 1, 5}, {1, 2, 1, 5}, {0, 0, 1, 5}, {1, 0, 0, 5},
            {1, 0, 3, 5}, {1, 0, -1, 5}, {1, 0, 1, 0}, {1, 0, 1, 31}, {1, 0, 2, -1}, {1, 0, 2, 1000}};
        String before = Check.picture(x);
        for (int[] w : wrong) {
            Check.due("set(" + w[0] + ", " + w[1] + ", " + w[2] + ", " + w[3] + ")",
                    x.set(w[0], w[1], w[2], w[3]), Check.BEYOND);
        }
        Check.that("nothing is changed", Check.picture(x).equals(before));
        Check.due("status(0)", x.status(0), wrong.length);
    }

    /** Promise 6. */
    private static void turn() {
        WallDown x = Check.house("stone 3 high 8 price 21");
        for (int kind = 1; kind < 6; kind++) {
            Check.due("turn", x.turn(3, 0, kind), kind - 1);
            Check.due("kind", x.of(3, 0, 0), kind);
        }
        Check.due("the same kind", x.turn(3, 0, 5), 5);
        Check.due("high stays", x.of(3, 0, 1), 8);
        Check.due("price stays", x.of(3, 0, 2), 21);
        int[][] wrong = {{-1, 0, 0}, {4, 0, 0}, {3, 1, 0}, {3, -1, 0}, {3, 0, -1}, {3, 0, 6}, {0, 0, 0}};
        for (int[] w : wrong) {
            Check.due("turn(" + w[0] + ", " + w[1] + ", " + w[2] + ")", x.turn(w[0], w[1], w[2]), Check.BEYOND);
        }
        Check.due("kind", x.of(3, 0, 0), 5);
    }

    /** Promise 7. */
    private static void as() {
        boolean[][] under = {
            {true, false, false, false, false, false},
            {true, true, false, false, false, false},
            {true, false, true, false, false, false},
            {true, false, false, true, false, false},
            {true, true, false, false, true, false},
            {true, false, true, false, false, true},
        };
        WallDown x = new WallDown();
        int kindFindings = 0;
        for (int kind = 0; kind < 6; kind++) {
            x.stone(kind, 2, 11 + kind);
            for (int as = 0; as < 6; as++) {
                Check.due("kind " + kind + " as " + as, x.as(2, kind, as), under[kind][as] ? 11 + kind : Check.KIND);
                kindFindings += under[kind][as] ? 0 : 1;
            }
        }
        Check.due("status(2)", x.status(2), kindFindings);
        int[][] wrong = {{-1, 0, 0}, {4, 0, 0}, {2, 6, 0}, {2, -1, 0}, {2, 0, -1}, {2, 0, 6}, {0, 0, 0}};
        for (int[] w : wrong) {
            Check.due("as(" + w[0] + ", " + w[1] + ", " + w[2] + ")", x.as(w[0], w[1], w[2]), Check.BEYOND);
        }
    }

    /** Promise 8. */
    private static void wedge() {
        WallDown x = new WallDown();
        Check.due("wedge", x.wedge(3, 20), 0);
        Check.due("wedge again", x.wedge(3, 7), 20);
        Check.due("wedge is", x.wallOf(3, 1), 7);
        Check.due("top", x.wallOf(3, 2), 7);
        Check.due("another", x.wallOf(2, 1), 0);
        Check.due("to 0", x.wedge(3, 0), 7);
        int[][] wrong = {{-1, 5}, {4, 5}, {0, -1}, {0, 21}};
        for (int[] w : wrong) {
            Check.due("wedge(" + w[0] + ", " + w[1] + ")", x.wedge(w[0], w[1]), Check.BEYOND);
        }
        Check.due("all tops", x.count(2), 0);
    }

    /** Promise 9. */
    private static void slack() {
        WallDown x = new WallDown();
        Check.due("slack", x.slack(99), 10);
        Check.due("slack again", x.slack(0), 99);
        Check.due("slack is", x.now(1), 0);
        Check.due("too little", x.slack(-1), Check.BEYOND);
        Check.due("too much", x.slack(100), Check.BEYOND);
        Check.due("slack stays", x.now(1), 0);
    }

    /** Promise 10. */
    private static void beam() {
        WallDown x = new WallDown();
        Check.due("it lies already", x.beam(0, true), 0);
        Check.due("off", x.beam(0, false), 1);
        Check.due("the set", x.now(3), 6);
        Check.due("off again", x.beam(0, false), 0);
        Check.due("off", x.beam(2, false), 1);
        Check.due("the set", x.now(3), 2);
        Check.due("on", x.beam(0, true), 1);
        Check.due("the set", x.now(3), 3);
        Check.due("no such beam", x.beam(3, true), Check.BEYOND);
        Check.due("no such beam", x.beam(-1, false), Check.BEYOND);
        Check.due("the set", x.now(3), 3);
        Check.due("status(0)", x.status(0), 2);
    }

    /** Promise 11. */
    private static void nights() {
        WallDown x = Check.house("rotten 0 high 9;false 1 high 9;stone 2 high 9;rotten 3 high 2;wedge 3 5");
        Check.due("three nights", x.nights(3), 3 + 1 + 0 + 1);
        Check.due("night", x.now(0), 3);
        Check.due("ninety-nine nights", x.nights(99), 5 + 3);
        Check.due("night", x.now(0), 102);
        Check.due("no more is lost", x.nights(1), 0);
        int[] wrong = {0, -1, 100, Integer.MAX_VALUE, Integer.MIN_VALUE};
        for (int n : wrong) {
            Check.due("nights(" + n + ")", x.nights(n), Check.BEYOND);
        }
        Check.due("night", x.now(0), 103);
    }

    private static void nightsAtTheEnd() {
        WallDown x = new WallDown();
        for (int i = 0; i < 10; i++) {
            x.nights(99);
        }
        Check.due("night", x.now(0), 990);
        Check.due("above 999", x.nights(10), Check.STATE);
        Check.due("BEYOND is asked first", x.nights(100), Check.BEYOND);
        Check.due("night", x.now(0), 990);
        Check.due("just 999", x.nights(9), 0);
        Check.due("night", x.now(0), 999);
        Check.due("one more", x.nights(1), Check.STATE);
        Check.due("status(4)", x.status(4), 2);
    }

    /** Promise 12. */
    private static void now() {
        WallDown x = Check.house("stone 0 high 20;stone 1 high 5;stone 1 high 4;stone 2 high 30;stone 3 high 30",
                "wedge 3 2;slack 21");
        x.nights(7);
        int[] due = {7, 21, 0, 7, 5, 1 + 16 + 64 + 512, 21, 1};
        for (int what = 0; what < 8; what++) {
            Check.due("now(" + what + ")", x.now(what), due[what]);
        }
        x.slack(20);
        Check.due("not safe", x.now(7), 0);
        x.beam(1, false);
        Check.due("unlike under the beams that lie", x.now(6), 11);
        Check.due("safe", x.now(7), 1);
        x.beam(0, false);
        Check.due("unlike under the last beam", x.now(6), 2);
        x.beam(2, false);
        Check.due("unlike without beams", x.now(6), 0);
        x.slack(0);
        Check.due("safe without beams", x.now(7), 1);
        Check.due("now(-1)", x.now(-1), Check.BEYOND);
        Check.due("now(8)", x.now(8), Check.BEYOND);
    }
}
