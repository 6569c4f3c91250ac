import java.util.function.Supplier;

/** Promises 23 to 30: the last that may be, the first that may not, nothing and all. */
public final class CoinEdgeTest {
    private static final int[] NO_WALLS = {-1, 4, Edge.LEAST, Edge.GREATEST};
    private static final int[] NO_PULLS = {-1, 29, Edge.LEAST, Edge.GREATEST};

    public static void main(String[] args) {
        mostOfNoPulls();
        mostOfNoStones();
        mostOfAllPulls();
        mostOfMorePullsThanStones();
        mostOfTheDearestHouse();
        mostBehindPulls();
        mostBeyond();
        whereOfNoPulls();
        whereOfNoStones();
        whereOfAllPulls();
        whereOfSeveral();
        whereBeyond();
        outOfFirstAndLast();
        outNone();
        outBeyondBeforeNone();
        reachOfNothingAndOfAll();
        reachBeyond();
        helpAtItsEnds();
        helpInPlaceOfWhatItIs();
        helpNone();
        freesFirstAndLast();
        freesNone();
        kindFirstAndLast();
        kindState();
        kindBeyondBeforeState();
        tillAtItsEnds();
        tillBeyondTheLastNight();
        tillNone();
        Check.end();
    }

    private static WallDown some() {
        return Edge.told("stone 0 price 1;stone 0 price 100;stone 1 price 40;false 1;stone 3 price 30");
    }

    private static WallDown stuck() {
        return Edge.told("stone 0;stone 1;slack 4");
    }

    /** As dear as can be: CARVED of PRICE 999, seven in each wall. */
    private static WallDown dearest() {
        WallDown x = new WallDown();
        for (int wall = 0; wall < 4; wall++) {
            for (int i = 0; i < 7; i++) {
                x.stone(4, wall, 1);
                x.set(wall, i, 2, 999);
            }
        }
        return x;
    }

    /** Promise 23: n 0. */
    private static void mostOfNoPulls() {
        Edge.asked("most(0)", CoinEdgeTest::some, 0, x -> x.most(0));
        Edge.asked("most(0) of all", Edge::full, 0, x -> x.most(0));
        Edge.asked("most(1)", CoinEdgeTest::some, 40, x -> x.most(1));
    }

    /** Promise 23: no stones. */
    private static void mostOfNoStones() {
        Edge.asked("most(0)", WallDown::new, 0, x -> x.most(0));
        Edge.asked("most(1)", WallDown::new, 0, x -> x.most(1));
        Edge.asked("most(28)", WallDown::new, 0, x -> x.most(28));
    }

    /** Promise 23: n 28. */
    private static void mostOfAllPulls() {
        Edge.asked("most(27)", Edge::full, 270, x -> x.most(27));
        Edge.asked("most(28)", Edge::full, 280, x -> x.most(28));
        Edge.asked("most(28) of the last night", Edge::brimful, 280, x -> x.most(28));
    }

    /** Promise 23: n PULLS, or fewer. */
    private static void mostOfMorePullsThanStones() {
        Edge.asked("as many as there are", CoinEdgeTest::some, 171, x -> x.most(5));
        Edge.asked("one more", CoinEdgeTest::some, 171, x -> x.most(6));
        Edge.asked("far more", CoinEdgeTest::some, 171, x -> x.most(28));
        Edge.asked("none can be pulled", CoinEdgeTest::stuck, 0, x -> x.most(28));
    }

    /** Promise 23: the greatest answer. */
    private static void mostOfTheDearestHouse() {
        WallDown x = dearest();
        Check.due("most(28)", x.most(28), 28 * 2008);
        Check.due("most(27)", x.most(27), 27 * 2008);
        Check.due("most(1)", x.most(1), 2008);
    }

    /** Promises 23, 24 and 38: a ROW goes from how all is now: what was pulled ahead of it brings no more. */
    private static void mostBehindPulls() {
        WallDown x = dearest();
        for (int left = 27; left >= 0; left--) {
            x.most(28);
            x.pull(3 - left % 4);
            Check.due("most(0) of " + left, x.most(0), 0);
            Check.due("most(1) of " + left, x.most(1), left > 0 ? 2008 : 0);
            Check.due("most(28) of " + left, x.most(28), 2008 * left);
            Check.due("where(0) of " + left, x.where(0), x.now(5));
        }
        x.sheet(0, 64, 2);
        Check.due("book", x.book(0), 2);
        Check.due("for 1", x.write(0, 1, 0), 0);
    }

    /** Promise 23: BEYOND. */
    private static void mostBeyond() {
        for (int n : NO_PULLS) {
            Edge.refused("most(" + n + ")", Edge::rich, Check.BEYOND, x -> x.most(n));
            Edge.refused("most(" + n + ") of no stones", WallDown::new, Check.BEYOND, x -> x.most(n));
        }
        Edge.refused("most(29) of a full house", Edge::full, Check.BEYOND, x -> x.most(29));
    }

    /** Promise 24: n 0. */
    private static void whereOfNoPulls() {
        Edge.asked("where(0)", CoinEdgeTest::some, 2 + 16 + 512, x -> x.where(0));
        Edge.asked("where(0) of all", Edge::full, 4095, x -> x.where(0));
        Edge.asked("where(1)", CoinEdgeTest::some, 2 + 8 + 512, x -> x.where(1));
    }

    /** Promise 24: no stones. */
    private static void whereOfNoStones() {
        Edge.asked("where(0)", WallDown::new, 0, x -> x.where(0));
        Edge.asked("where(28)", WallDown::new, 0, x -> x.where(28));
    }

    /** Promise 24: n 28, and more than there are. */
    private static void whereOfAllPulls() {
        Edge.asked("where(28)", Edge::full, 0, x -> x.where(28));
        Edge.asked("where(27)", Edge::full, 1, x -> x.where(27));
        Edge.asked("more than there are", CoinEdgeTest::some, 8, x -> x.where(28));
        Edge.asked("none can be pulled", CoinEdgeTest::stuck, 9, x -> x.where(28));
    }

    /** Promise 24: of several that with most STONES, then the least. */
    private static void whereOfSeveral() {
        Edge.asked("of four", () -> Edge.told("stone 0;stone 1;stone 2;stone 3"), 1 + 8 + 64, x -> x.where(1));
        Edge.asked("most stones", () -> Edge.told("false 0;false 1;false 2;false 3"), 1 + 8 + 64 + 512,
                x -> x.where(28));
        Edge.asked("most stones, though it isn't the least",
                () -> Edge.told("false 0;stone 0;stone 1;stone 3 price 0"), 2 + 512, x -> x.where(2));
        Edge.asked("all of no coin", () -> {
            WallDown x = Edge.full();
            for (int i = 0; i < 28; i++) {
                x.turn(i % 4, i / 4, 5);
            }
            return x;
        }, 4095, x -> x.where(28));
    }

    /** Promise 24: BEYOND. */
    private static void whereBeyond() {
        for (int n : NO_PULLS) {
            Edge.refused("where(" + n + ")", Edge::rich, Check.BEYOND, x -> x.where(n));
            Edge.refused("where(" + n + ") of no stones", WallDown::new, Check.BEYOND, x -> x.where(n));
        }
        Edge.refused("where(29) of a full house", Edge::full, Check.BEYOND, x -> x.where(29));
    }

    /** Promise 25: the first and the last stone of the first and the last wall. */
    private static void outOfFirstAndLast() {
        for (int wall = 0; wall < 4; wall++) {
            int w = wall;
            Edge.asked("out(" + w + ", 0)", Edge::full, 1, x -> x.out(w, 0));
            Edge.asked("out(" + w + ", 6)", Edge::full, 7, x -> x.out(w, 6));
        }
        Edge.asked("the last of 28", () -> {
            WallDown x = Edge.full();
            x.slack(14);
            for (int wall = 0; wall < 3; wall++) {
                x.turn(wall, 6, 1);
            }
            x.turn(3, 6, 4);
            return x;
        }, 22, x -> x.out(0, 6));
    }

    /** Promise 25: NONE. */
    private static void outNone() {
        Edge.refused("out(0, 0)", CoinEdgeTest::stuck, Check.NONE, x -> x.out(0, 0));
        Edge.refused("out(1, 0)", CoinEdgeTest::stuck, Check.NONE, x -> x.out(1, 0));
        Supplier<WallDown> half = () -> Edge.told("stone 2 high 30;stone 2 high 30",
                "wedge 0 20;wedge 1 20;wedge 3 20;slack 10");
        Edge.asked("the first can be", half, 1, x -> x.out(2, 0));
        Edge.refused("the last can't", half, Check.NONE, x -> x.out(2, 1));
        Edge.refused("of a full house", () -> {
            WallDown x = Edge.brimful();
            x.slack(13);
            return x;
        }, Check.NONE, x -> x.out(3, 6));
    }

    /** Promise 25: BEYOND; asked before NONE. */
    private static void outBeyondBeforeNone() {
        for (int wall : NO_WALLS) {
            Edge.refused("out(" + wall + ", 0)", Edge::rich, Check.BEYOND, x -> x.out(wall, 0));
            Edge.refused("out(" + wall + ", 0)", CoinEdgeTest::stuck, Check.BEYOND, x -> x.out(wall, 0));
        }
        int[] wrong = {-1, 1, 7, Edge.LEAST, Edge.GREATEST};
        for (int i : wrong) {
            Edge.refused("out(0, " + i + ")", CoinEdgeTest::stuck, Check.BEYOND, x -> x.out(0, i));
        }
        for (int wall = 0; wall < 4; wall++) {
            int w = wall;
            Edge.refused("of no stones", WallDown::new, Check.BEYOND, x -> x.out(w, 0));
            Edge.refused("the eighth", Edge::full, Check.BEYOND, x -> x.out(w, 7));
            Edge.refused("below the lowest", Edge::full, Check.BEYOND, x -> x.out(w, -1));
        }
    }

    /** Promise 26: none, and seven. */
    private static void reachOfNothingAndOfAll() {
        for (int wall = 0; wall < 4; wall++) {
            int w = wall;
            Edge.asked("reach of no stones", WallDown::new, 0, x -> x.reach(w));
            Edge.asked("reach of a full house", Edge::full, 7, x -> x.reach(w));
            Edge.asked("by an inch less than one", () -> {
                WallDown x = Edge.full();
                x.slack(13);
                return x;
            }, 0, x -> x.reach(w));
        }
        Edge.asked("one that can't go", CoinEdgeTest::stuck, 0, x -> x.reach(1));
        Edge.asked("one of two", () -> Edge.told("stone 3 high 9;stone 3;wedge 2 9;beam 0 off;beam 1 off;slack 5"), 1,
                x -> x.reach(3));
    }

    /** Promise 26: BEYOND. */
    private static void reachBeyond() {
        for (int wall : NO_WALLS) {
            Edge.refused("reach(" + wall + ")", Edge::rich, Check.BEYOND, x -> x.reach(wall));
            Edge.refused("reach(" + wall + ") of no stones", WallDown::new, Check.BEYOND, x -> x.reach(wall));
        }
    }

    /** One stone, whose wall must be just as high as a wedge beside it when it is out. */
    private static WallDown waits(int wall, int other, int inches) {
        WallDown x = new WallDown();
        x.stone(0, wall, 9);
        x.wedge(other, inches);
        x.slack(0);
        for (int beam = 0; beam < 3; beam++) {
            x.beam(beam, beam == Math.min(wall, other));
        }
        return x;
    }

    /** Promise 27: WALLS 0 to 3, 1 to 20 inches. */
    private static void helpAtItsEnds() {
        Edge.asked("1 under wall 0", () -> waits(0, 1, 1), 1, WallDown::help);
        Edge.asked("20 under wall 0", () -> waits(0, 1, 20), 20, WallDown::help);
        Edge.asked("20 under wall 1", () -> waits(1, 2, 20), 120, WallDown::help);
        Edge.asked("1 under wall 2", () -> waits(2, 1, 1), 201, WallDown::help);
        Edge.asked("1 under wall 3", () -> waits(3, 2, 1), 301, WallDown::help);
        Edge.asked("20 under wall 3", () -> waits(3, 2, 20), 320, WallDown::help);
    }

    /** Promise 27: in place of what it is; more than now; of several the least. */
    private static void helpInPlaceOfWhatItIs() {
        Edge.asked("less than it is", () -> {
            WallDown x = waits(0, 1, 5);
            x.wedge(0, 20);
            return x;
        }, 5, WallDown::help);
        Edge.asked("the least of several", () -> {
            WallDown x = waits(0, 1, 20);
            x.slack(10);
            return x;
        }, 10, WallDown::help);
        Edge.refused("0 inches would help, but 1 at least it must be", () -> {
            WallDown x = waits(0, 1, 0);
            x.wedge(0, 20);
            x.beam(1, true);
            return x;
        }, Check.NONE, WallDown::help);
    }

    /** Promise 27: NONE. */
    private static void helpNone() {
        Edge.refused("no stones", WallDown::new, Check.NONE, WallDown::help);
        Edge.refused("all stands can be", Edge::full, Check.NONE, WallDown::help);
        Edge.refused("of the last night", Edge::brimful, Check.NONE, WallDown::help);
        Edge.refused("as many, not more", () -> {
            WallDown x = waits(0, 1, 20);
            x.wedge(0, 20);
            return x;
        }, Check.NONE, WallDown::help);
        Edge.refused("no beams", () -> {
            WallDown x = waits(0, 1, 20);
            x.beam(0, false);
            return x;
        }, Check.NONE, WallDown::help);
        Edge.refused("no wedge does", () -> Edge.told("stone 0 high 30;stone 1 high 30;slack 4;beam 1 off"), Check.NONE,
                WallDown::help);
    }

    /** Promise 28: the first and the last BEAM; more than now; of several the least. */
    private static void freesFirstAndLast() {
        Edge.asked("beam 0", () -> waits(0, 1, 20), 0, WallDown::frees);
        Edge.asked("beam 1", () -> waits(1, 2, 20), 1, WallDown::frees);
        Edge.asked("beam 2", () -> waits(3, 2, 20), 2, WallDown::frees);
        Edge.asked("of several the least",
                () -> Edge.told("stone 0 high 20;stone 1 high 20;stone 2 high 20;stone 3 high 20;slack 19"), 0,
                WallDown::frees);
    }

    /** Promise 28: NONE. */
    private static void freesNone() {
        Edge.refused("no stones", WallDown::new, Check.NONE, WallDown::frees);
        Edge.refused("all stands can be", Edge::full, Check.NONE, WallDown::frees);
        Edge.refused("of the last night", Edge::brimful, Check.NONE, WallDown::frees);
        Edge.refused("no beams", () -> {
            WallDown x = waits(0, 1, 20);
            x.beam(0, false);
            return x;
        }, Check.NONE, WallDown::frees);
        Edge.refused("not one alone", () -> Edge.told("stone 1 high 20;stone 2 high 20;slack 19"), Check.NONE,
                WallDown::frees);
        Edge.refused("no beam bars it", () -> Edge.told("key 0;through 0;stone 1;stone 1;slack 99"), Check.NONE,
                WallDown::frees);
    }

    /** Promise 29: the first and the last KIND; of several the least. */
    private static void kindFirstAndLast() {
        for (int wall = 0; wall < 4; wall++) {
            int w = wall;
            Edge.asked("all are alike", Edge::full, 0, x -> x.kind(w));
            Edge.asked("none lets more be", () -> {
                WallDown x = Edge.brimful();
                x.slack(0);
                x.turn(w, 0, 4);
                return x;
            }, 0, x -> x.kind(w));
        }
        Supplier<WallDown> made = () -> Edge.told("stone 2 high 9;stone 3 high 9;slack 8;beam 1 off");
        Edge.asked("the last kind", made, 5, x -> x.kind(2));
        Edge.asked("the last kind", made, 5, x -> x.kind(3));
        Edge.asked("one stone", () -> Edge.told("carved 0"), 0, x -> x.kind(0));
    }

    /** Promise 29: STATE: it has none. */
    private static void kindState() {
        for (int wall = 0; wall < 4; wall++) {
            int w = wall;
            Edge.refused("kind(" + w + ") of no stones", WallDown::new, Check.STATE, x -> x.kind(w));
            Edge.refused("kind(" + w + ") of a wall without", () -> {
                WallDown x = Edge.full();
                x.bring(4095 - (7 << 3 * w));
                return x;
            }, Check.STATE, x -> x.kind(w));
        }
    }

    /** Promise 29: findings in their order: BEYOND, STATE. */
    private static void kindBeyondBeforeState() {
        for (int wall : NO_WALLS) {
            Edge.refused("kind(" + wall + ")", Edge::rich, Check.BEYOND, x -> x.kind(wall));
            Edge.refused("kind(" + wall + ") of no stones", WallDown::new, Check.BEYOND, x -> x.kind(wall));
            Edge.refused("kind(" + wall + ") of all", Edge::full, Check.BEYOND, x -> x.kind(wall));
        }
    }

    private static WallDown inNight(WallDown x, int night) {
        for (int left = night; left > 0; left -= 99) {
            x.nights(Math.min(99, left));
        }
        return x;
    }

    /** The key waits for one of wall 0, and must be 8 above the rotten one at most, till night 5. */
    private static WallDown fifth() {
        return Edge.told("stone 0 high 1;rotten 0 high 9;key 1 high 12;slack 8;beam 1 off");
    }

    /** Promise 30: of 0 to 60 on from that which is now. */
    private static void tillAtItsEnds() {
        Edge.asked("no stones", WallDown::new, 60, WallDown::till);
        Edge.asked("all of them", Edge::full, 60, WallDown::till);
        Edge.asked("60 on", () -> inNight(Edge.told("stone 0"), 1), 61, WallDown::till);
        Edge.asked("5 on", CoinEdgeTest::fifth, 5, WallDown::till);
        Edge.asked("1 on", () -> inNight(fifth(), 4), 5, WallDown::till);
        Edge.asked("0 on", () -> inNight(fifth(), 5), 5, WallDown::till);
        Edge.asked("this night alone",
                () -> Edge.told("stone 0 high 1;rotten 0 high 8;key 1 high 16;slack 8;beam 1 off"), 0, WallDown::till);
    }

    /** Promise 30: whatever it comes to. */
    private static void tillBeyondTheLastNight() {
        Edge.asked("from 939", () -> inNight(new WallDown(), 939), 999, WallDown::till);
        Edge.asked("from 940", () -> inNight(new WallDown(), 940), 1000, WallDown::till);
        Edge.asked("from 999", () -> inNight(new WallDown(), 999), 1059, WallDown::till);
        Edge.asked("from 999 of all", Edge::brimful, 1059, WallDown::till);
    }

    /** Promise 30: NONE. */
    private static void tillNone() {
        Edge.refused("too late by one night", () -> inNight(fifth(), 6), Check.NONE, WallDown::till);
        Edge.refused("never", CoinEdgeTest::stuck, Check.NONE, WallDown::till);
        Edge.refused("never, from 999", () -> inNight(stuck(), 999), Check.NONE, WallDown::till);
        Edge.refused("never, of all", () -> {
            WallDown x = Edge.brimful();
            x.slack(13);
            return x;
        }, Check.NONE, WallDown::till);
    }
}
