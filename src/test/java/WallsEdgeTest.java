import java.util.function.Supplier;

/** Promises 1 to 12 and the bounds of section 1: the last value that may be, the first that may not. */
public final class WallsEdgeTest {
    private static final int[] NO_WALLS = {-1, 4, Edge.LEAST, Edge.GREATEST};
    private static final int[] NO_KINDS = {-1, 6, Edge.LEAST, Edge.GREATEST};

    public static void main(String[] args) {
        newObjectHasNoStones();
        newObjectHasAnEmptyTape();
        newObjectKeepsNoImage();
        firstValues();
        stoneAtItsEnds();
        stoneOfNoKind();
        stoneOnNoWall();
        stoneTooLowOrTooHigh();
        stoneOnAFullWall();
        stoneBeyondBeforeFull();
        wallOfEmptyAndFullWalls();
        wallOfBeyond();
        ofFirstAndLastStone();
        ofBeyond();
        tallOfRottenIsOneAtLeast();
        tallOfFalseMayBeNone();
        coinAtItsEnds();
        keyMayGoAtTheOuterWalls();
        throughMayGoAtTheLastWall();
        mayGoAsIfItWereTheLowest();
        setHighAtItsEnds();
        setPriceAtItsEnds();
        setBeyond();
        turnAtItsEnds();
        turnBeyond();
        asOfKindsUnder();
        asBeyondBeforeKind();
        wedgeAtItsEnds();
        wedgeBeyond();
        slackAtItsEnds();
        beamAtItsEnds();
        nightsAtTheirEnds();
        nightsUpToTheLast();
        nightsOfAFullHouse();
        nightsBeyondBeforeState();
        nowOfNothing();
        nowOfAsMuchAsCanBe();
        nowBeyond();
        safeBySlackAtMost();
        unlikeWithoutBeams();
        purseAtMost();
        Check.end();
    }

    /** Promise 1: no STONES. */
    private static void newObjectHasNoStones() {
        for (int wall = 0; wall < 4; wall++) {
            int w = wall;
            Edge.asked("wallOf(" + w + ", 0)", WallDown::new, 0, x -> x.wallOf(w, 0));
            Edge.refused("of(" + w + ", 0, 0)", WallDown::new, Check.BEYOND, x -> x.of(w, 0, 0));
        }
        Edge.asked("now(4)", WallDown::new, 0, x -> x.now(4));
        Edge.asked("now(5)", WallDown::new, 0, x -> x.now(5));
    }

    /** Promise 1: THE TAPE is empty. */
    private static void newObjectHasAnEmptyTape() {
        Edge.asked("count(1)", WallDown::new, 0, x -> x.count(1));
        Edge.asked("wipe()", WallDown::new, 0, WallDown::wipe);
        Edge.asked("house()", WallDown::new, -1, WallDown::house);
    }

    /** Promise 1: no image is kept. */
    private static void newObjectKeepsNoImage() {
        Edge.asked("tear()", WallDown::new, 0, WallDown::tear);
        Edge.refused("undo()", WallDown::new, Check.NONE, WallDown::undo);
    }

    /** Section 1: what WEDGE, BEAMS, SLACK, NIGHT, PURSE and PRICE are at first. */
    private static void firstValues() {
        for (int wall = 0; wall < 4; wall++) {
            int w = wall;
            Edge.asked("the first wedge", WallDown::new, 0, x -> x.wallOf(w, 1));
            WallDown y = new WallDown();
            y.stone(0, w, 5);
            Check.due("the first price", y.of(w, 0, 2), 10);
        }
        Edge.asked("the first night", WallDown::new, 0, x -> x.now(0));
        Edge.asked("the first slack", WallDown::new, 10, x -> x.now(1));
        Edge.asked("the first purse", WallDown::new, 0, x -> x.now(2));
        Edge.asked("all beams lie at first", WallDown::new, 7, x -> x.now(3));
        for (int s = 0; s < 4; s++) {
            int sheet = s;
            Edge.refused("each sheet is MISSING at first", WallDown::new, Check.MISSING, x -> x.write(sheet, 0, 1));
        }
    }

    /** Promise 2: the least and the greatest of each argument. */
    private static void stoneAtItsEnds() {
        for (int kind = 0; kind <= 5; kind += 5) {
            for (int wall = 0; wall <= 3; wall += 3) {
                for (int high = 1; high <= 30; high += 29) {
                    WallDown x = new WallDown();
                    Check.due("stone(" + kind + ", " + wall + ", " + high + ")", x.stone(kind, wall, high), 0);
                    Check.due("its kind", x.of(wall, 0, 0), kind);
                    Check.due("its high", x.of(wall, 0, 1), high);
                    Check.due("one stone", x.now(4), 1);
                    Check.due("no finding", x.status(-1), 0);
                }
            }
        }
    }

    /** Promise 2: BEYOND: kind. */
    private static void stoneOfNoKind() {
        for (int kind : NO_KINDS) {
            Edge.refused("stone(" + kind + ", 0, 5)", Edge::rich, Check.BEYOND, x -> x.stone(kind, 0, 5));
        }
    }

    /** Promise 2: BEYOND: wall. */
    private static void stoneOnNoWall() {
        for (int wall : NO_WALLS) {
            Edge.refused("stone(0, " + wall + ", 5)", Edge::rich, Check.BEYOND, x -> x.stone(0, wall, 5));
        }
    }

    /** Promise 2: BEYOND: high. */
    private static void stoneTooLowOrTooHigh() {
        int[] wrong = {0, 31, -1, Edge.LEAST, Edge.GREATEST};
        for (int high : wrong) {
            Edge.refused("stone(0, 0, " + high + ")", Edge::rich, Check.BEYOND, x -> x.stone(0, 0, high));
        }
    }

    /** Promise 2: FULL; each wall has room of its own. */
    private static void stoneOnAFullWall() {
        for (int wall = 0; wall < 4; wall++) {
            int w = wall;
            WallDown x = new WallDown();
            for (int i = 0; i < 7; i++) {
                Check.due("stone " + i, x.stone(0, w, 5), i);
            }
            Check.due("the eighth", x.stone(0, w, 5), Check.FULL);
            Check.due("the next wall has room", x.stone(0, (w + 1) % 4, 5), 0);
            Edge.refused("the eighth on wall " + w, Edge::full, Check.FULL, y -> y.stone(5, w, 30));
            Edge.refused("the eighth on wall " + w, Edge::brimful, Check.FULL, y -> y.stone(0, w, 1));
        }
    }

    /** Promise 2: findings in their order: BEYOND, FULL. */
    private static void stoneBeyondBeforeFull() {
        Edge.refused("no kind on a full wall", Edge::full, Check.BEYOND, x -> x.stone(6, 0, 5));
        Edge.refused("no kind on a full wall", Edge::full, Check.BEYOND, x -> x.stone(-1, 3, 5));
        Edge.refused("too low on a full wall", Edge::full, Check.BEYOND, x -> x.stone(0, 0, 0));
        Edge.refused("too high on a full wall", Edge::full, Check.BEYOND, x -> x.stone(0, 3, 31));
        Edge.refused("no wall of a full house", Edge::full, Check.BEYOND, x -> x.stone(0, 4, 5));
        Edge.refused("no wall of a full house", Edge::full, Check.BEYOND, x -> x.stone(0, -1, 5));
        Edge.refused("all wrong, one finding", Edge::full, Check.BEYOND, x -> x.stone(-1, -1, 0));
    }

    /** Seven CARVED of 30 inches and PRICE 999 on each wall, and the greatest WEDGE. */
    private static WallDown greatest() {
        WallDown x = new WallDown();
        for (int wall = 0; wall < 4; wall++) {
            x.wedge(wall, 20);
            for (int i = 0; i < 7; i++) {
                x.stone(4, wall, 30);
                x.set(wall, i, 2, 999);
            }
        }
        return x;
    }

    /** Promise 3: of a wall without stones, and of one with seven. */
    private static void wallOfEmptyAndFullWalls() {
        WallDown none = new WallDown();
        WallDown all = greatest();
        int[] due = {7, 20, 230, 14056};
        for (int wall = 0; wall < 4; wall++) {
            for (int what = 0; what < 4; what++) {
                Check.due("of no stones: wallOf(" + wall + ", " + what + ")", none.wallOf(wall, what), 0);
                Check.due("of seven: wallOf(" + wall + ", " + what + ")", all.wallOf(wall, what), due[what]);
            }
        }
        none.wedge(1, 20);
        Check.due("the top of a wedge alone", none.wallOf(1, 2), 20);
    }

    /** Promise 3: BEYOND. */
    private static void wallOfBeyond() {
        for (int wall : NO_WALLS) {
            for (int what = 0; what < 4; what++) {
                int asked = what;
                Edge.refused("wallOf(" + wall + ", " + what + ")", Edge::rich, Check.BEYOND,
                        x -> x.wallOf(wall, asked));
            }
        }
        int[] wrong = {-1, 4, Edge.LEAST, Edge.GREATEST};
        for (int what : wrong) {
            Edge.refused("wallOf(0, " + what + ")", Edge::rich, Check.BEYOND, x -> x.wallOf(0, what));
            Edge.refused("wallOf(3, " + what + ")", Edge::rich, Check.BEYOND, x -> x.wallOf(3, what));
            Edge.refused("wallOf(4, " + what + ")", Edge::rich, Check.BEYOND, x -> x.wallOf(4, what));
        }
    }

    /** Promise 4: the first and the last stone of the first and the last wall. */
    private static void ofFirstAndLastStone() {
        int[] due = {4, 30, 999, 30, 2008, 1};
        for (int wall = 0; wall <= 3; wall += 3) {
            for (int i = 0; i <= 6; i += 6) {
                for (int what = 0; what < 6; what++) {
                    int w = wall;
                    int stone = i;
                    int asked = what;
                    Edge.asked("of(" + w + ", " + i + ", " + what + ")", WallsEdgeTest::greatest, due[what],
                            x -> x.of(w, stone, asked));
                }
            }
        }
    }

    /** No such stone in the rich house, where wall 0 has 2 stones, wall 1 3, wall 2 2 and wall 3 none. */
    private static final int[][] NO_STONES = {{-1, 0}, {4, 0}, {Edge.LEAST, 0}, {Edge.GREATEST, 0}, {0, -1}, {0, 2},
        {1, 3}, {2, 2}, {3, 0}, {3, -1}, {0, Edge.LEAST}, {0, Edge.GREATEST}, {1, 7}, {4, 7}, {-1, -1}};

    /** Promise 4: BEYOND. */
    private static void ofBeyond() {
        for (int[] no : NO_STONES) {
            for (int what = 0; what < 6; what++) {
                int asked = what;
                Edge.refused("of(" + no[0] + ", " + no[1] + ", " + what + ")", Edge::rich, Check.BEYOND,
                        x -> x.of(no[0], no[1], asked));
            }
        }
        int[] wrong = {-1, 6, Edge.LEAST, Edge.GREATEST};
        for (int what : wrong) {
            Edge.refused("of(1, 0, " + what + ")", Edge::rich, Check.BEYOND, x -> x.of(1, 0, what));
            Edge.refused("of(1, 3, " + what + ")", Edge::rich, Check.BEYOND, x -> x.of(1, 3, what));
        }
        for (int wall = 0; wall < 4; wall++) {
            int w = wall;
            Edge.refused("the eighth of a full wall", Edge::full, Check.BEYOND, x -> x.of(w, 7, 0));
            Edge.refused("one below the lowest", Edge::full, Check.BEYOND, x -> x.of(w, -1, 0));
        }
    }

    private static int tall(int kind, int high, int night) {
        WallDown x = new WallDown();
        x.stone(kind, 2, high);
        for (int left = night; left > 0; left -= 99) {
            x.nights(Math.min(99, left));
        }
        Check.due("night", x.now(0), night);
        return x.of(2, 0, 3);
    }

    /** Section 1: ROTTEN: HIGH less NIGHT (1 at least). */
    private static void tallOfRottenIsOneAtLeast() {
        Check.due("30 in night 28", tall(2, 30, 28), 2);
        Check.due("30 in night 29", tall(2, 30, 29), 1);
        Check.due("30 in night 30", tall(2, 30, 30), 1);
        Check.due("30 in night 31", tall(2, 30, 31), 1);
        Check.due("1 in night 0", tall(2, 1, 0), 1);
        Check.due("1 in night 1", tall(2, 1, 1), 1);
        Check.due("1 in night 999", tall(2, 1, 999), 1);
        Check.due("30 in night 999", tall(2, 30, 999), 1);
        Check.due("a stone in night 999", tall(0, 30, 999), 30);
    }

    /** Section 1: FALSE: as ROTTEN, by 2 (0 may be); quotients are cut. */
    private static void tallOfFalseMayBeNone() {
        Check.due("1 in night 0", tall(5, 1, 0), 0);
        Check.due("2 in night 0", tall(5, 2, 0), 1);
        Check.due("3 in night 0", tall(5, 3, 0), 1);
        Check.due("30 in night 0", tall(5, 30, 0), 15);
        Check.due("30 in night 28", tall(5, 30, 28), 1);
        Check.due("30 in night 29", tall(5, 30, 29), 0);
        Check.due("30 in night 33", tall(5, 30, 33), 0);
        Check.due("30 in night 999", tall(5, 30, 999), 0);
    }

    /** Section 1: COIN of the least and the greatest PRICE; half of it is cut. */
    private static void coinAtItsEnds() {
        int[][] due = {{0, 5, 0, 0, 10, 0}, {1, 6, 0, 1, 12, 0}, {999, 1004, 499, 999, 2008, 0}};
        int[] prices = {0, 1, 999};
        for (int p = 0; p < prices.length; p++) {
            for (int kind = 0; kind < 6; kind++) {
                WallDown x = new WallDown();
                x.stone(kind, 0, 5);
                x.set(0, 0, 2, prices[p]);
                Check.due("COIN of kind " + kind + ", price " + prices[p], x.of(0, 0, 4), due[p][kind]);
                Check.due("pull", x.pull(0) > Check.BEYOND ? 1 : 0, 1);
                Check.due("PURSE by kind " + kind + ", price " + prices[p], x.now(2), due[p][kind]);
            }
        }
    }

    /** One stone of a KIND on a wall, and two on another one. */
    private static int mayGo(int kind, int wall, int other) {
        WallDown x = new WallDown();
        x.stone(kind, wall, 5);
        x.stone(0, other, 5);
        Check.due("beside as many", x.of(wall, 0, 5), 1);
        x.stone(0, other, 5);
        return x.of(wall, 0, 5);
    }

    /** Section 1: KEY: if no WALL beside its own has more STONES: WALL 0 and WALL 3 have one beside them. */
    private static void keyMayGoAtTheOuterWalls() {
        for (int kind = 1; kind <= 4; kind += 3) {
            for (int wall = 0; wall < 4; wall++) {
                for (int other = 0; other < 4; other++) {
                    if (other != wall) {
                        Check.due("kind " + kind + " of wall " + wall + " with more in " + other,
                                mayGo(kind, wall, other), Math.abs(wall - other) == 1 ? 0 : 1);
                    }
                }
            }
        }
    }

    /** Section 1: THROUGH: if the WALL after its own (none: always) has no more STONES. */
    private static void throughMayGoAtTheLastWall() {
        for (int wall = 0; wall < 4; wall++) {
            for (int other = 0; other < 4; other++) {
                if (other != wall) {
                    Check.due("through of wall " + wall + " with more in " + other,
                            mayGo(3, wall, other), other == wall + 1 ? 0 : 1);
                }
            }
        }
        for (int i = 0; i < 7; i++) {
            int stone = i;
            Supplier<WallDown> made = () -> {
                WallDown x = Edge.full();
                x.turn(3, stone, 3);
                x.turn(0, stone, 1);
                return x;
            };
            Edge.asked("through of a full wall 3", made, 1, x -> x.of(3, stone, 5));
            Edge.asked("key of a full wall 0", made, 1, x -> x.of(0, stone, 5));
        }
    }

    /** Promise 4: 1 if it MAY GO (as if it were the lowest): its own KIND is asked, wherever it lies. */
    private static void mayGoAsIfItWereTheLowest() {
        Supplier<WallDown> made = () -> Edge.told("stone 1;key 1;stone 1;through 1;carved 1;rotten 1",
                "stone 2;stone 2;stone 2;stone 2;stone 2;stone 2;stone 2;slack 99");
        int[] due = {1, 0, 1, 0, 0, 1};
        for (int i = 0; i < due.length; i++) {
            int stone = i;
            Edge.asked("one more beside, stone " + i, made, due[i], x -> x.of(1, stone, 5));
            Edge.asked("as many beside, stone " + i, () -> {
                WallDown x = made.get();
                x.stone(1, 1, 5);
                return x;
            }, 1, x -> x.of(1, stone, 5));
        }
        Edge.asked("one that may go on one that may not", () -> Edge.told("key 3;stone 3;stone 2;stone 2;stone 2"), 1,
                x -> x.of(3, 1, 5));
    }

    /** Promise 5: HIGH: 1 to 30. */
    private static void setHighAtItsEnds() {
        WallDown x = Edge.told("stone 0;stone 0 high 9;stone 3 high 8");
        Check.due("to 1", x.set(0, 1, 1, 1), 9);
        Check.due("to 30", x.set(0, 1, 1, 30), 1);
        Check.due("it is", x.of(0, 1, 1), 30);
        Check.due("on wall 3", x.set(3, 0, 1, 30), 8);
        Check.due("the others stay", x.of(0, 0, 1), 5);
        Check.due("prices stay", x.of(0, 1, 2), 10);
        int[] wrong = {0, 31, -1, Edge.LEAST, Edge.GREATEST};
        for (int v : wrong) {
            Edge.refused("set(0, 1, 1, " + v + ")", Edge::rich, Check.BEYOND, y -> y.set(0, 1, 1, v));
        }
    }

    /** Promise 5: PRICE: 0 to 999. */
    private static void setPriceAtItsEnds() {
        WallDown x = Edge.told("stone 0;stone 0 price 9;stone 3 price 8");
        Check.due("to 0", x.set(0, 1, 2, 0), 9);
        Check.due("to 999", x.set(0, 1, 2, 999), 0);
        Check.due("it is", x.of(0, 1, 2), 999);
        Check.due("on wall 3", x.set(3, 0, 2, 999), 8);
        Check.due("the others stay", x.of(0, 0, 2), 10);
        Check.due("heights stay", x.of(0, 1, 1), 5);
        int[] wrong = {-1, 1000, Edge.LEAST, Edge.GREATEST};
        for (int v : wrong) {
            Edge.refused("set(0, 1, 2, " + v + ")", Edge::rich, Check.BEYOND, y -> y.set(0, 1, 2, v));
        }
    }

    /** Promise 5: BEYOND: no such stone, no such what. */
    private static void setBeyond() {
        for (int[] no : NO_STONES) {
            for (int what = 1; what <= 2; what++) {
                int asked = what;
                Edge.refused("set(" + no[0] + ", " + no[1] + ", " + what + ", 7)", Edge::rich, Check.BEYOND,
                        x -> x.set(no[0], no[1], asked, 7));
            }
        }
        int[] wrong = {0, 3, -1, 4, Edge.LEAST, Edge.GREATEST};
        for (int what : wrong) {
            Edge.refused("set(1, 0, " + what + ", 5)", Edge::rich, Check.BEYOND, x -> x.set(1, 0, what, 5));
        }
        for (int wall = 0; wall < 4; wall++) {
            int w = wall;
            Edge.refused("the eighth of a full wall", Edge::full, Check.BEYOND, x -> x.set(w, 7, 1, 5));
        }
    }

    /** Promise 6: the first and the last KIND, the first and the last stone. */
    private static void turnAtItsEnds() {
        for (int wall = 0; wall <= 3; wall += 3) {
            for (int i = 0; i <= 6; i += 6) {
                WallDown x = Edge.full();
                Check.due("to the last kind", x.turn(wall, i, 5), 0);
                Check.due("it is", x.of(wall, i, 0), 5);
                Check.due("to the first kind", x.turn(wall, i, 0), 5);
                Check.due("it is", x.of(wall, i, 0), 0);
                Check.due("no finding", x.status(-1), 0);
            }
        }
    }

    /** Promise 6: BEYOND. */
    private static void turnBeyond() {
        for (int[] no : NO_STONES) {
            Edge.refused("turn(" + no[0] + ", " + no[1] + ", 1)", Edge::rich, Check.BEYOND,
                    x -> x.turn(no[0], no[1], 1));
        }
        for (int kind : NO_KINDS) {
            Edge.refused("turn(1, 2, " + kind + ")", Edge::rich, Check.BEYOND, x -> x.turn(1, 2, kind));
        }
        for (int wall = 0; wall < 4; wall++) {
            int w = wall;
            Edge.refused("the eighth of a full wall", Edge::full, Check.BEYOND, x -> x.turn(w, 7, 1));
        }
    }

    /** Promise 7: KIND: it isn't of that kind, nor of one under it. */
    private static void asOfKindsUnder() {
        int[] under = {0b000001, 0b000011, 0b000101, 0b001001, 0b010011, 0b100101};
        for (int kind = 0; kind < 6; kind++) {
            for (int as = 0; as < 6; as++) {
                int of = kind;
                int asked = as;
                Supplier<WallDown> made = () -> {
                    WallDown x = Edge.rich();
                    x.turn(1, 2, of);
                    return x;
                };
                if ((under[kind] >> as & 1) == 1) {
                    Edge.asked("kind " + kind + " as " + as, made, 3, x -> x.as(1, 2, asked));
                } else {
                    Edge.refused("kind " + kind + " as " + as, made, Check.KIND, x -> x.as(1, 2, asked));
                }
            }
        }
    }

    /** Promise 7: BEYOND: no such one, kind; asked before KIND. */
    private static void asBeyondBeforeKind() {
        for (int[] no : NO_STONES) {
            for (int kind = 0; kind < 6; kind += 5) {
                int asked = kind;
                Edge.refused("as(" + no[0] + ", " + no[1] + ", " + kind + ")", Edge::rich, Check.BEYOND,
                        x -> x.as(no[0], no[1], asked));
            }
        }
        for (int kind : NO_KINDS) {
            for (int i = 0; i < 3; i++) {
                int stone = i;
                Edge.refused("as(1, " + i + ", " + kind + ")", Edge::rich, Check.BEYOND, x -> x.as(1, stone, kind));
            }
        }
        WallDown x = Edge.full();
        for (int wall = 0; wall < 4; wall++) {
            Check.due("the seventh", x.as(wall, 6, 0), 14);
            Check.due("the eighth", x.as(wall, 7, 0), Check.BEYOND);
        }
    }

    /** Promise 8: WEDGE: 0 to 20. */
    private static void wedgeAtItsEnds() {
        for (int wall = 0; wall < 4; wall++) {
            WallDown x = new WallDown();
            Check.due("to 20", x.wedge(wall, 20), 0);
            Check.due("the same again", x.wedge(wall, 20), 20);
            for (int other = 0; other < 4; other++) {
                Check.due("wedge of wall " + other, x.wallOf(other, 1), other == wall ? 20 : 0);
            }
            Check.due("to 0", x.wedge(wall, 0), 20);
            Check.due("it is", x.wallOf(wall, 1), 0);
            Check.due("no finding", x.status(-1), 0);
        }
    }

    /** Promise 8: BEYOND. */
    private static void wedgeBeyond() {
        int[] wrong = {-1, 21, Edge.LEAST, Edge.GREATEST};
        for (int v : wrong) {
            for (int wall = 0; wall < 4; wall++) {
                int w = wall;
                Edge.refused("wedge(" + w + ", " + v + ")", Edge::rich, Check.BEYOND, x -> x.wedge(w, v));
            }
            Edge.refused("wedge(4, " + v + ")", Edge::rich, Check.BEYOND, x -> x.wedge(4, v));
        }
        for (int wall : NO_WALLS) {
            Edge.refused("wedge(" + wall + ", 0)", Edge::rich, Check.BEYOND, x -> x.wedge(wall, 0));
            Edge.refused("wedge(" + wall + ", 20)", Edge::rich, Check.BEYOND, x -> x.wedge(wall, 20));
        }
    }

    /** Promise 9: SLACK: 0 to 99; BEYOND. */
    private static void slackAtItsEnds() {
        WallDown x = new WallDown();
        Check.due("to 0", x.slack(0), 10);
        Check.due("to 99", x.slack(99), 0);
        Check.due("it is", x.now(1), 99);
        Check.due("the same again", x.slack(99), 99);
        Check.due("no finding", x.status(-1), 0);
        int[] wrong = {-1, 100, Edge.LEAST, Edge.GREATEST};
        for (int v : wrong) {
            Edge.refused("slack(" + v + ")", Edge::rich, Check.BEYOND, y -> y.slack(v));
        }
    }

    /** Promise 10: BEAM 0 to 2; BEYOND. */
    private static void beamAtItsEnds() {
        for (int beam = 0; beam < 3; beam++) {
            WallDown x = new WallDown();
            Check.due("it lies", x.beam(beam, true), 0);
            Check.due("off", x.beam(beam, false), 1);
            Check.due("the set", x.now(3), 7 - (1 << beam));
            Check.due("off again", x.beam(beam, false), 0);
            Check.due("on", x.beam(beam, true), 1);
            Check.due("the set", x.now(3), 7);
        }
        int[] wrong = {-1, 3, Edge.LEAST, Edge.GREATEST, 32, 33};
        for (int beam : wrong) {
            Edge.refused("beam(" + beam + ", true)", Edge::rich, Check.BEYOND, x -> x.beam(beam, true));
            Edge.refused("beam(" + beam + ", false)", Edge::rich, Check.BEYOND, x -> x.beam(beam, false));
        }
    }

    /** Promise 11: n NIGHTS (1 to 99); BEYOND. */
    private static void nightsAtTheirEnds() {
        WallDown x = Edge.told("rotten 0 high 30;false 3 high 30");
        Check.due("one", x.nights(1), 1 + 1);
        Check.due("night", x.now(0), 1);
        Check.due("ninety-nine", x.nights(99), 28 + 14);
        Check.due("night", x.now(0), 100);
        Check.due("no finding", x.status(-1), 0);
        int[] wrong = {0, 100, -1, Edge.LEAST, Edge.GREATEST};
        for (int n : wrong) {
            Edge.refused("nights(" + n + ")", Edge::rich, Check.BEYOND, y -> y.nights(n));
        }
    }

    private static WallDown inNight(int night) {
        WallDown x = Edge.rich();
        for (int left = night - 3; left > 0; left -= 99) {
            x.nights(Math.min(99, left));
        }
        return x;
    }

    /** Promise 11: STATE: NIGHT would be above 999. */
    private static void nightsUpToTheLast() {
        WallDown x = inNight(900);
        Check.due("ninety-nine up to the last", x.nights(99), 0);
        Check.due("night", x.now(0), 999);
        WallDown y = inNight(998);
        Check.due("one up to the last", y.nights(1), 0);
        Check.due("night", y.now(0), 999);
        Edge.refused("one too many", () -> inNight(901), Check.STATE, z -> z.nights(99));
        Edge.refused("two from 998", () -> inNight(998), Check.STATE, z -> z.nights(2));
        Edge.refused("one from 999", () -> inNight(999), Check.STATE, z -> z.nights(1));
        Edge.refused("ninety-nine from 999", () -> inNight(999), Check.STATE, z -> z.nights(99));
        Edge.refused("one from 999, of a full house", Edge::brimful, Check.STATE, z -> z.nights(1));
    }

    /** Promise 11: by how much all TOPS together are less: of no stones, and of as many as can be. */
    private static void nightsOfAFullHouse() {
        Check.due("no stones", new WallDown().nights(99), 0);
        int[] due = {0, 0, 28 * 29, 0, 0, 28 * 15};
        for (int kind = 0; kind < 6; kind++) {
            WallDown x = new WallDown();
            for (int i = 0; i < 28; i++) {
                x.stone(kind, i % 4, 30);
            }
            Check.due("28 of kind " + kind, x.nights(29), due[kind]);
            Check.due("no more is lost", x.nights(1), 0);
        }
    }

    /** Promise 11: findings in their order: BEYOND, STATE. */
    private static void nightsBeyondBeforeState() {
        int[] wrong = {0, 100, -1, Edge.LEAST, Edge.GREATEST};
        for (int n : wrong) {
            Edge.refused("nights(" + n + ") in the night 999", Edge::late, Check.BEYOND, x -> x.nights(n));
        }
    }

    /** Promise 12: of no stones. */
    private static void nowOfNothing() {
        int[] due = {0, 10, 0, 7, 0, 0, 0, 1};
        for (int what = 0; what < 8; what++) {
            int asked = what;
            Edge.asked("now(" + what + ") of no stones", WallDown::new, due[what], x -> x.now(asked));
        }
    }

    /** Promise 12: of seven stones in each wall, in the last night. */
    private static void nowOfAsMuchAsCanBe() {
        int[] due = {999, 98, 0, 7, 28, 4095, 0, 1};
        for (int what = 0; what < 8; what++) {
            int asked = what;
            Edge.asked("now(" + what + ") of all", Edge::brimful, due[what], x -> x.now(asked));
        }
        WallDown x = new WallDown();
        for (int i = 0; i < 7; i++) {
            x.stone(0, 1, 30);
        }
        x.wedge(1, 20);
        Check.due("unlike by as much as can be", x.now(6), 230);
        x.slack(99);
        Check.due("that is not safe", x.now(7), 0);
    }

    /** Promise 12: BEYOND. */
    private static void nowBeyond() {
        int[] wrong = {-1, 8, Edge.LEAST, Edge.GREATEST};
        for (int what : wrong) {
            Edge.refused("now(" + what + ")", Edge::rich, Check.BEYOND, x -> x.now(what));
            Edge.refused("now(" + what + ")", WallDown::new, Check.BEYOND, x -> x.now(what));
        }
    }

    /** Section 1: SAFE: TOPS are unlike by SLACK at most. */
    private static void safeBySlackAtMost() {
        for (int beam = 0; beam < 3; beam++) {
            for (int side = 0; side < 2; side++) {
                WallDown x = new WallDown();
                for (int other = 0; other < 3; other++) {
                    x.beam(other, other == beam);
                }
                x.stone(0, beam + side, 20);
                x.slack(20);
                Check.due("just SLACK, beam " + beam, x.now(7), 1);
                x.slack(19);
                Check.due("one more, beam " + beam, x.now(7), 0);
            }
        }
        WallDown x = new WallDown();
        x.slack(0);
        Check.due("alike by SLACK 0", x.now(7), 1);
        x.wedge(0, 1);
        Check.due("unlike by 1 by SLACK 0", x.now(7), 0);
        WallDown y = Edge.told("stone 0 high 30;stone 0 high 30;stone 0 high 30;stone 0 high 9;slack 99");
        Check.due("just 99", y.now(7), 1);
        y.wedge(0, 1);
        Check.due("100", y.now(7), 0);
    }

    /** Promise 12: by how much TOPS are unlike most under a BEAM that lies (0 without). */
    private static void unlikeWithoutBeams() {
        WallDown x = Edge.told("stone 0 high 30;wedge 1 1;stone 2 high 9;slack 0");
        Check.due("most of three", x.now(6), 29);
        x.beam(0, false);
        Check.due("most of two", x.now(6), 9);
        x.beam(1, false);
        Check.due("one", x.now(6), 9);
        x.beam(2, false);
        Check.due("without", x.now(6), 0);
        Check.due("safe without", x.now(7), 1);
    }

    /** Section 1: PURSE: 999999 at most; more is lost. (It takes more calls than are promised.) */
    private static void purseAtMost() {
        WallDown x = new WallDown();
        int due = 0;
        for (int i = 0; i < 500; i++) {
            x.stone(4, 3, 1);
            x.set(3, 0, 2, 999);
            x.pull(3);
            due = Math.min(999999, due + 2008);
            Check.due("purse", x.now(2), due);
        }
        Check.due("at most", x.now(2), 999999);
        x.stone(0, 3, 1);
        Check.due("by a row", x.bring(0), 1);
        Check.due("more is lost", x.now(2), 999999);
        Edge.feed(x, "stone 0 price 999;pull 0");
        Check.due("by a text", x.house(), 2);
        Check.due("more is lost", x.now(2), 999999);
        x.stone(0, 0, 1);
        x.sheet(0, 8, 1);
        Check.due("by a sheet", x.lays(0), 1);
        Check.due("more is lost", x.now(2), 999999);
        x.image();
        Check.due("undo", x.undo(), 0);
        Check.due("kept", x.now(2), 999999);
    }
}
