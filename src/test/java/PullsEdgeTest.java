import java.util.function.Supplier;

/** Promises 13 to 22 and section 2: the last that may be, the first that may not, nothing and all. */
public final class PullsEdgeTest {
    private static final int[] NO_WALLS = {-1, 4, Edge.LEAST, Edge.GREATEST};
    private static final long ORDERS_OF_ALL = 472518347558400L;

    public static void main(String[] args) {
        pullOutOfNoWall();
        pullWithoutAStone();
        pullOfOneThatMayNotGo();
        pullThatIsUnsafeBehind();
        pullThatIsUnsafeAheadOnly();
        pullOfTheLastStone();
        pullOfAFullWall();
        pullBySlackAtItsEnds();
        pullsOfNothingAndOfAll();
        standsThatAreNone();
        standsOfNothing();
        standsOfAll();
        moreStonesThanThereAre();
        canOfThatWhichIsNow();
        canAsksOnly();
        stands();
        least();
        waysOfNothingAndOfAll();
        waysToNone();
        firstOfNow();
        firstOfNone();
        firstBeyondBeforeNone();
        firstOfAll();
        bringOfNow();
        bringOfAll();
        bringOfNone();
        bringBeyondBeforeState();
        slackForAtItsEnds();
        slackOfEachNumber();
        slackForNone();
        slackForBeyondBeforeNone();
        slackAllAtItsEnds();
        slackAllNone();
        Check.end();
    }

    private static WallDown open(String... texts) {
        WallDown x = Edge.told(texts);
        for (int beam = 0; beam < 3; beam++) {
            x.beam(beam, false);
        }
        return x;
    }

    /** Promise 13: BEYOND. */
    private static void pullOutOfNoWall() {
        for (int wall : NO_WALLS) {
            Edge.refused("pull(" + wall + ")", Edge::rich, Check.BEYOND, x -> x.pull(wall));
            Edge.refused("pull(" + wall + ") of no stones", WallDown::new, Check.BEYOND, x -> x.pull(wall));
            Edge.refused("pull(" + wall + ") of a full house", Edge::full, Check.BEYOND, x -> x.pull(wall));
        }
    }

    /** Promise 13: STATE: there is no stone. */
    private static void pullWithoutAStone() {
        for (int wall = 0; wall < 4; wall++) {
            int w = wall;
            Edge.refused("pull(" + wall + ") of no stones", WallDown::new, Check.STATE, x -> x.pull(w));
        }
        Edge.refused("pull(3) of an empty wall", Edge::rich, Check.STATE, x -> x.pull(3));
    }

    /** Promise 13: STATE: it may not go. */
    private static void pullOfOneThatMayNotGo() {
        Edge.refused("a key", () -> open("key 1;stone 0;stone 0"), Check.STATE, x -> x.pull(1));
        Edge.refused("a key", () -> open("key 1;stone 2;stone 2"), Check.STATE, x -> x.pull(1));
        Edge.refused("a carved one", () -> open("carved 3;stone 2;stone 2"), Check.STATE, x -> x.pull(3));
        Edge.refused("a carved one", () -> open("carved 0;stone 1;stone 1"), Check.STATE, x -> x.pull(0));
        Edge.refused("one through", () -> open("through 2;stone 3;stone 3"), Check.STATE, x -> x.pull(2));
        WallDown x = open("key 1;stone 2;stone 0;through 3;stone 3");
        Check.due("a key beside as many", x.pull(1), 5);
        WallDown y = open("stone 2;stone 2;stone 2;through 3");
        Check.due("one through, with none after it", y.pull(3), 5);
        WallDown z = open("stone 0;key 0;stone 1;stone 1");
        Check.due("a key that isn't the lowest is not asked", z.pull(0), 5);
        Check.due("it is now", z.pull(0), Check.STATE);
    }

    /** Promise 13: STATE: all isn't SAFE behind it; by one inch. */
    private static void pullThatIsUnsafeBehind() {
        for (int beam = 0; beam < 3; beam++) {
            int b = beam;
            Supplier<WallDown> made = () -> {
                WallDown x = new WallDown();
                x.stone(0, b, 7);
                x.stone(0, b + 1, 7);
                for (int other = 0; other < 3; other++) {
                    x.beam(other, other == b);
                }
                x.slack(6);
                return x;
            };
            Edge.refused("unlike by SLACK and one", made, Check.STATE, x -> x.pull(b));
            Edge.refused("unlike by SLACK and one", made, Check.STATE, x -> x.pull(b + 1));
            WallDown x = made.get();
            x.slack(7);
            Check.due("unlike by just SLACK", x.pull(b), 7);
            WallDown y = made.get();
            y.beam(b, false);
            Check.due("no beam lies", y.pull(b), 7);
        }
    }

    /** Section 1: whether all is SAFE ahead of it isn't asked. */
    private static void pullThatIsUnsafeAheadOnly() {
        WallDown x = Edge.told("stone 2 high 30;stone 2 high 1;slack 1");
        Check.due("unsafe", x.now(7), 0);
        Check.due("pulls", x.pulls(), 4);
        Check.due("can", x.can(64), 1);
        Check.due("pull", x.pull(2), 30);
        Check.due("safe", x.now(7), 1);
        WallDown y = Edge.told("stone 2 high 30;stone 2 high 30;stone 2 high 1;slack 1");
        Check.due("unsafe ahead and behind", y.pull(2), Check.STATE);
        Check.due("and none by it", y.can(64), 0);
    }

    /** Promise 13: a wall's last stone, and then none. */
    private static void pullOfTheLastStone() {
        for (int wall = 0; wall < 4; wall++) {
            WallDown x = new WallDown();
            x.stone(4, wall, 10);
            Check.due("pull", x.pull(wall), 10);
            Check.due("none is left", x.wallOf(wall, 0), 0);
            Check.due("stand", x.now(5), 0);
            Check.due("purse", x.now(2), 30);
            Check.due("no more", x.pull(wall), Check.STATE);
            Check.due("purse", x.now(2), 30);
            Check.due("room again", x.stone(0, wall, 1), 0);
        }
    }

    /** Promise 13: the lowest of seven; the six on it sink. */
    private static void pullOfAFullWall() {
        for (int wall = 0; wall < 4; wall++) {
            WallDown x = new WallDown();
            for (int other = 0; other < 4; other++) {
                for (int i = 0; i < 7; i++) {
                    x.stone(0, other, 10 * other % 3 + i + 1);
                    x.set(other, i, 2, 100 * other + i);
                }
            }
            x.slack(99);
            Check.due("pull", x.pull(wall), 10 * wall % 3 + 1);
            Check.due("purse", x.now(2), 100 * wall);
            for (int other = 0; other < 4; other++) {
                int gone = other == wall ? 1 : 0;
                Check.due("stones", x.wallOf(other, 0), 7 - gone);
                for (int i = 0; i < 7 - gone; i++) {
                    Check.due("high", x.of(other, i, 1), 10 * other % 3 + i + gone + 1);
                    Check.due("price", x.of(other, i, 2), 100 * other + i + gone);
                }
                Check.due("no stone above", x.of(other, 7 - gone, 0), Check.BEYOND);
            }
        }
    }

    /** A pull by SLACK 0, and by SLACK 99. */
    private static void pullBySlackAtItsEnds() {
        WallDown x = Edge.told("stone 0 high 4;slack 0");
        Check.due("SLACK 0, alike behind", x.pull(0), 4);
        Edge.refused("SLACK 0, unlike by 1 behind", () -> Edge.told("stone 0 high 4;wedge 0 1;slack 0"), Check.STATE,
                y -> y.pull(0));
        String high = "stone 1 high 30;stone 1 high 30;stone 1 high 30;stone 1 high ";
        WallDown z = Edge.told(high + "9;slack 99;stone 0 high 1");
        Check.due("SLACK 99, unlike by 99 behind", z.pull(0), 1);
        Edge.refused("SLACK 99, unlike by 100 behind", () -> Edge.told(high + "10;slack 99;stone 0 high 1"),
                Check.STATE, y -> y.pull(0));
    }

    /** Promise 14: no wall, and all of them. */
    private static void pullsOfNothingAndOfAll() {
        Edge.asked("pulls() of no stones", WallDown::new, 0, WallDown::pulls);
        Edge.asked("pulls() of a full house", Edge::full, 15, WallDown::pulls);
        Edge.asked("pulls() of the last night", Edge::brimful, 15, WallDown::pulls);
        Edge.asked("pulls() by SLACK 0", () -> Edge.told("stone 0;stone 1;slack 0"), 0, WallDown::pulls);
    }

    private static void noSuchStand(String name, Supplier<WallDown> made, int stand) {
        Edge.refused("can(" + stand + ") of " + name, made, Check.BEYOND, x -> x.can(stand));
        Edge.refused("ways(" + stand + ") of " + name, made, Check.BEYOND, x -> x.ways(stand));
        Edge.refused("first(" + stand + ") of " + name, made, Check.BEYOND, x -> x.first(stand));
        Edge.refused("bring(" + stand + ") of " + name, made, Check.BEYOND, x -> x.bring(stand));
        Edge.refused("slackFor(" + stand + ") of " + name, made, Check.BEYOND, x -> x.slackFor(stand));
    }

    /** Promises 15 and 18 to 21: BEYOND: no such stand, below 0 and above all walls. */
    private static void standsThatAreNone() {
        int[] none = {-1, -8, -4096, 4096, 4097, 8192, Edge.LEAST, Edge.GREATEST};
        for (int stand : none) {
            noSuchStand("no stones", WallDown::new, stand);
            noSuchStand("some", Edge::rich, stand);
            noSuchStand("all", Edge::full, stand);
        }
    }

    /** Section 2: of no stones the stand 0 is the only one. */
    private static void standsOfNothing() {
        Edge.asked("can(0)", WallDown::new, 1, x -> x.can(0));
        int[] none = {1, 7, 8, 64, 512, 4095};
        for (int stand : none) {
            noSuchStand("no stones", WallDown::new, stand);
        }
    }

    /** Section 2: of a full house all 4096 are stands. */
    private static void standsOfAll() {
        WallDown x = Edge.full();
        int[] some = {0, 1, 7, 8, 56, 63, 64, 448, 512, 3584, 4094, 4095};
        for (int stand : some) {
            Check.due("can(" + stand + ")", x.can(stand), 1);
        }
        Check.due("no finding", x.status(-1), 0);
    }

    /** Promise 15: more STONES than there are, in one wall or another. */
    private static void moreStonesThanThereAre() {
        // The rich house has 2, 3, 2 and no stones.
        int now = 2 + 8 * 3 + 64 * 2;
        Edge.asked("that which is now", Edge::rich, 1, x -> x.can(now));
        int[] none = {now + 1, now + 8, now + 64, now + 512, 3, 8 * 4, 64 * 3, 512, now - 2 + 7, 4095};
        for (int stand : none) {
            noSuchStand("some", Edge::rich, stand);
        }
        for (int wall = 0; wall < 4; wall++) {
            int w = wall;
            Supplier<WallDown> six = () -> {
                WallDown x = Edge.full();
                x.pull(w);
                return x;
            };
            noSuchStand("six in wall " + wall, six, 7 << 3 * wall);
            noSuchStand("six in wall " + wall, six, 4095);
            Edge.asked("six of six", six, 1, x -> x.can(6 << 3 * w));
        }
    }

    /** Section 2: CAN BE: that which is now, too. */
    private static void canOfThatWhichIsNow() {
        Supplier<WallDown> unsafe = () -> Edge.told("stone 0 high 30;stone 0 high 30;slack 0");
        Edge.asked("now, though unsafe", unsafe, 1, x -> x.can(2));
        Edge.asked("ways to it", unsafe, 1, x -> x.ways(2));
        Edge.asked("stands", unsafe, 1, WallDown::stands);
        Edge.asked("not one out", unsafe, 0, x -> x.can(1));
        Edge.asked("nor, by an unsafe one, two", unsafe, 0, x -> x.can(0));
        Edge.asked("now of a full house", Edge::full, 1, x -> x.can(4095));
    }

    /** A stand that can't be is no finding of can(), and nothing is pulled by asking. */
    private static void canAsksOnly() {
        Supplier<WallDown> made = () -> Edge.told("stone 0;stone 0;stone 1;stone 1;slack 5;beam 1 off");
        Edge.asked("it can be", made, 1, x -> x.can(0));
        Edge.asked("it can't be", made, 0, x -> x.can(16));
        Edge.asked("all of a full house", Edge::full, 1, x -> x.can(0));
        Edge.asked("in the last night", Edge::brimful, 1, x -> x.can(0));
    }

    /** Promise 16: one at least, 4096 at most. */
    private static void stands() {
        Edge.asked("stands() of no stones", WallDown::new, 1, WallDown::stands);
        Edge.asked("stands() of a full house", Edge::full, 4096, WallDown::stands);
        Edge.asked("stands() of the last night", Edge::brimful, 4096, WallDown::stands);
        Supplier<WallDown> tight = () -> {
            WallDown x = Edge.full();
            x.slack(0);
            return x;
        };
        Edge.asked("stands() by SLACK 0", tight, 1, WallDown::stands);
        Supplier<WallDown> shy = () -> {
            WallDown x = Edge.full();
            x.slack(97);
            return x;
        };
        // Barred: a full wall beside an empty one, 7 * 14 inches.
        int due = 0;
        for (int stand = 0; stand < 4096; stand++) {
            boolean safe = true;
            for (int wall = 0; wall < 3; wall++) {
                safe &= Math.abs((stand >> 3 * wall & 7) - (stand >> 3 * wall + 3 & 7)) < 7;
            }
            due += safe ? 1 : 0;
        }
        Edge.asked("stands() by one inch less", shy, due, WallDown::stands);
    }

    /** Promise 17: no stones; all out; none out. */
    private static void least() {
        Edge.asked("least() of no stones", WallDown::new, 0, WallDown::least);
        Edge.asked("least() of a full house", Edge::full, 0, WallDown::least);
        Supplier<WallDown> tight = () -> {
            WallDown x = Edge.full();
            x.slack(13);
            return x;
        };
        Edge.asked("none out of a full house", tight, 4095, WallDown::least);
        Edge.asked("none out of one stone", () -> Edge.told("stone 3;wedge 3 20"), 512, WallDown::least);
    }

    /** Promise 18: of no stones one, of as many as can be far more than an int has. */
    private static void waysOfNothingAndOfAll() {
        Edge.asked("ways(0) of no stones", WallDown::new, 1, x -> x.ways(0));
        Edge.asked("ways(4095) of a full house", Edge::full, 1, x -> x.ways(4095));
        Edge.asked("ways(0) of a full house", Edge::full, ORDERS_OF_ALL, x -> x.ways(0));
        Edge.asked("ways(1) of a full house", Edge::full, ORDERS_OF_ALL * 7 / 28, x -> x.ways(1));
        Edge.asked("ways(512) of a full house", Edge::full, ORDERS_OF_ALL * 7 / 28, x -> x.ways(512));
        Edge.asked("ways(4094) of a full house", Edge::full, 1, x -> x.ways(4094));
        Edge.asked("ways(2048 + 511)", Edge::full, 1, x -> x.ways(2048 + 511));
    }

    /** Promise 18: no row, no finding. */
    private static void waysToNone() {
        Edge.asked("ways(0)", () -> Edge.told("stone 0;stone 1;slack 4"), 0, x -> x.ways(0));
        Edge.asked("ways(1)", () -> Edge.told("stone 0;key 1;stone 2;stone 2"), 0, x -> x.ways(1 + 128));
    }

    /** Promise 19: NONE: it is that which is now. */
    private static void firstOfNow() {
        Edge.refused("first(0) of no stones", WallDown::new, Check.NONE, x -> x.first(0));
        Edge.refused("first(4095) of a full house", Edge::full, Check.NONE, x -> x.first(4095));
        Edge.refused("first of now", Edge::rich, Check.NONE, x -> x.first(2 + 24 + 128));
    }

    /** Promise 19: NONE: none does. */
    private static void firstOfNone() {
        Supplier<WallDown> made = () -> Edge.told("stone 0;stone 0;stone 1;stone 1;slack 5;beam 1 off");
        Edge.refused("first(16)", made, Check.NONE, x -> x.first(16));
        Edge.refused("first(2)", made, Check.NONE, x -> x.first(2));
        Edge.asked("first(0)", made, 0, x -> x.first(0));
        Edge.asked("first(10)", made, 1, x -> x.first(10));
    }

    /** Promise 19: findings in their order: BEYOND, NONE. */
    private static void firstBeyondBeforeNone() {
        Supplier<WallDown> stuck = () -> Edge.told("stone 0;stone 1;slack 4");
        Edge.refused("none does, no such stand", stuck, Check.BEYOND, x -> x.first(2));
        Edge.refused("none does, no such stand", stuck, Check.BEYOND, x -> x.first(-1));
        Edge.refused("none does", stuck, Check.NONE, x -> x.first(0));
    }

    /** Promise 19: the first and the last wall. */
    private static void firstOfAll() {
        Edge.asked("first(0) of a full house", Edge::full, 0, x -> x.first(0));
        Edge.asked("first(511) of a full house", Edge::full, 3, x -> x.first(511));
        Edge.asked("first(63) of a full house", Edge::full, 2, x -> x.first(63));
        Edge.asked("first(7) of a full house", Edge::full, 1, x -> x.first(7));
    }

    /** Promise 20: to that which is now there are no pulls. */
    private static void bringOfNow() {
        Edge.asked("bring(0) of no stones", WallDown::new, 0, x -> x.bring(0));
        Edge.asked("bring(4095) of a full house", Edge::full, 0, x -> x.bring(4095));
        Edge.asked("bring of now", Edge::rich, 0, x -> x.bring(2 + 24 + 128));
        Edge.asked("bring of now, though unsafe", () -> Edge.told("stone 0 high 30;slack 0"), 0, x -> x.bring(1));
    }

    /** Promise 20: as many as can be. */
    private static void bringOfAll() {
        WallDown x = Edge.brimful();
        Check.due("bring(0)", x.bring(0), 28);
        Check.due("stones", x.now(4), 0);
        Check.due("purse", x.now(2), 280);
        Check.due("again", x.bring(0), 0);
        WallDown y = Edge.full();
        Check.due("one out", y.bring(4094), 1);
        Check.due("stand", y.now(5), 4094);
        Check.due("all but one", y.bring(512), 26);
        Check.due("stand", y.now(5), 512);
        Check.due("purse", y.now(2), 270);
    }

    /** Promise 20: STATE: it can't be; nothing is pulled, not even the first ones. */
    private static void bringOfNone() {
        Supplier<WallDown> made = () -> Edge.told("stone 0;stone 0;stone 1;stone 1;slack 5;beam 1 off");
        Edge.refused("bring(16)", made, Check.STATE, x -> x.bring(16));
        Supplier<WallDown> half = () -> Edge.told("stone 0;stone 1 high 30;stone 0 high 30;stone 2 high 30;wedge 3 20");
        Edge.refused("one out, and no more", half, Check.STATE, x -> x.bring(0));
        Edge.refused("of SLACK 0", () -> {
            WallDown x = Edge.brimful();
            x.slack(0);
            return x;
        }, Check.STATE, x -> x.bring(0));
    }

    /** Promise 20: findings in their order: BEYOND, STATE. */
    private static void bringBeyondBeforeState() {
        Supplier<WallDown> stuck = () -> Edge.told("stone 0;stone 1;slack 4");
        Edge.refused("can't be, no such stand", stuck, Check.BEYOND, x -> x.bring(2));
        Edge.refused("can't be, no such stand", stuck, Check.BEYOND, x -> x.bring(-1));
        Edge.refused("can't be", stuck, Check.STATE, x -> x.bring(0));
    }

    private static final String HIGH = "stone 0 high 30;stone 0 high 30;stone 0 high 30;stone 0 high ";

    /** Promise 21: the least SLACK (0 to 99). */
    private static void slackForAtItsEnds() {
        Edge.asked("slackFor(0) of no stones", WallDown::new, 0, x -> x.slackFor(0));
        Edge.asked("now, though unsafe", () -> Edge.told(HIGH + "30;slack 0"), 0, x -> x.slackFor(4));
        Edge.asked("just 99", () -> Edge.told(HIGH + "9;stone 1 high 1;slack 0"), 99, x -> x.slackFor(4));
        Edge.asked("just 98", () -> Edge.told(HIGH + "8;stone 1 high 1;slack 0"), 98, x -> x.slackFor(4));
        Edge.asked("just 0", () -> Edge.told("stone 0;stone 0;slack 99"), 5, x -> x.slackFor(1));
        Edge.asked("just 0", () -> Edge.told("stone 0;slack 99"), 0, x -> x.slackFor(0));
        Edge.asked("all of a full house", Edge::full, 14, x -> x.slackFor(0));
        Edge.asked("a whole wall", Edge::full, 98, x -> x.slackFor(4088));
        for (int due = 1; due <= 30; due++) {
            int inches = due;
            Edge.asked("slackFor", () -> Edge.told("stone 3 high " + inches + ";stone 2 high 30"), inches,
                    x -> x.slackFor(512));
        }
    }

    /** Promises 21 and 22: each number from 1 to 99, and 100. */
    private static void slackOfEachNumber() {
        for (int inches = 1; inches <= 100; inches++) {
            WallDown x = new WallDown();
            x.stone(0, 3, 1);
            for (int left = inches; left > 0; left -= 30) {
                x.stone(0, 2, Math.min(30, left));
            }
            x.beam(1, false);
            int due = inches > 99 ? Check.NONE : inches;
            Check.due("the inch out beside " + inches, x.slackFor(x.now(5) - 512), due);
            WallDown y = new WallDown();
            y.stone(0, 0, 1);
            for (int left = inches; left > 0; left -= 30) {
                y.stone(0, 0, Math.min(30, left));
            }
            Check.due("the inch out under " + inches, y.slackAll(), due);
        }
    }

    /** Promise 21: NONE. */
    private static void slackForNone() {
        Edge.refused("100 is too much", () -> Edge.told(HIGH + "10;stone 1 high 1;slack 0"), Check.NONE,
                x -> x.slackFor(4));
        Edge.refused("by no slack", () -> Edge.told("key 0;stone 1;stone 1;slack 99"), Check.NONE, x -> x.slackFor(16));
    }

    /** Promise 21: findings in their order: BEYOND, NONE. */
    private static void slackForBeyondBeforeNone() {
        Supplier<WallDown> made = () -> Edge.told(HIGH + "10;stone 1 high 1;slack 0");
        Edge.refused("no such stand", made, Check.BEYOND, x -> x.slackFor(5));
        Edge.refused("no such stand", made, Check.BEYOND, x -> x.slackFor(64));
    }

    /** Promise 22: the least SLACK (0 to 99). */
    private static void slackAllAtItsEnds() {
        Edge.asked("slackAll() of no stones", WallDown::new, 0, WallDown::slackAll);
        Edge.asked("slackAll() of a full house", Edge::full, 14, WallDown::slackAll);
        Edge.asked("slackAll() of the last night", Edge::brimful, 14, WallDown::slackAll);
        Edge.asked("just 99", () -> Edge.told("stone 0;" + HIGH + "9;slack 0"), 99, WallDown::slackAll);
        Edge.asked("just 0", () -> Edge.told("stone 0;slack 99"), 0, WallDown::slackAll);
        Edge.asked("without beams", () -> open("stone 0;" + HIGH + "30;slack 9"), 0, WallDown::slackAll);
    }

    /** Promise 22: NONE. */
    private static void slackAllNone() {
        Edge.refused("100 is too much", () -> Edge.told("stone 0;" + HIGH + "10;slack 7"), Check.NONE,
                WallDown::slackAll);
        Edge.refused("far too much", () -> {
            WallDown x = new WallDown();
            for (int i = 0; i < 7; i++) {
                x.stone(0, 3, 30);
            }
            return x;
        }, Check.NONE, WallDown::slackAll);
    }
}
