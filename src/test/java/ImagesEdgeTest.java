import java.util.function.Supplier;

/** Promises 40 to 44 and FINDINGS: nothing kept, all kept, and what status() counts. */
public final class ImagesEdgeTest {
    public static void main(String[] args) {
        imageOfNothing();
        imageOfAll();
        imageTwice();
        imageChangesNothingElse();
        imageIsNotTouchedByWhatComes();
        undoOfNothingKept();
        undoKeepsIt();
        undoOfEachPart();
        undoLeavesTape();
        undoLeavesSheets();
        undoLeavesStatus();
        undoBringsNightBack();
        undoWithAFullWall();
        tearOfNothing();
        tearOfAll();
        tearThenUndo();
        countOfNothing();
        countOfAll();
        countBeyond();
        statusOfNothing();
        statusFirstAndLast();
        statusBeyondIsCountedFromThenOn();
        statusOfEachFinding();
        statusOfLongFindings();
        statusOfAnswersThatAreNone();
        statusOfManyFindings();
        Check.end();
    }

    /** Promise 40: no stones. */
    private static void imageOfNothing() {
        WallDown x = new WallDown();
        Check.due("image()", x.image(), 1);
        x.stone(0, 0, 5);
        x.slack(3);
        Check.due("undo()", x.undo(), 0);
        Check.due("no stones", x.now(4), 0);
        Check.due("slack", x.now(1), 10);
    }

    /** Promises 40 and 41: 28 stones, no two alike. */
    private static void imageOfAll() {
        WallDown x = Edge.full();
        for (int wall = 0; wall < 4; wall++) {
            x.wedge(wall, 20 - wall);
            for (int i = 0; i < 7; i++) {
                x.set(wall, i, 1, 1 + 7 * wall + i);
                x.set(wall, i, 2, 100 * wall + i);
                x.turn(wall, i, (wall + i) % 6);
            }
        }
        x.slack(99);
        x.beam(1, false);
        String before = Edge.stones(x);
        Check.due("image()", x.image(), 1);
        for (int wall = 0; wall < 4; wall++) {
            x.wedge(wall, 0);
        }
        for (int i = 0; i < 28; i++) {
            x.turn(i % 4, i / 4, 0);
        }
        Check.due("all out", x.bring(0), 28);
        x.nights(99);
        x.slack(0);
        x.beam(0, false);
        x.beam(1, true);
        Check.due("undo()", x.undo(), 28);
        String after = Edge.stones(x);
        Check.that("all is as it was:\n" + before + "\n" + after, after.equals(before));
    }

    /** Promise 40: one image is kept; a new one comes in its place. */
    private static void imageTwice() {
        WallDown x = new WallDown();
        x.stone(0, 0, 5);
        Check.due("image()", x.image(), 1);
        Check.due("the same again", x.image(), 1);
        x.pull(0);
        Check.due("of nothing now", x.image(), 1);
        x.stone(0, 1, 5);
        Check.due("the latest", x.undo(), 0);
        Check.due("one tear is enough", x.tear(), 1);
        Check.due("nothing is kept", x.tear(), 0);
    }

    /** Promise 40: it is kept; walls, tape, sheets and findings stay as they are. */
    private static void imageChangesNothingElse() {
        Supplier<WallDown> undone = () -> {
            WallDown x = Edge.rich();
            x.undo();
            return x;
        };
        Edge.asked("image() of what is kept already", undone, 1, WallDown::image);
        WallDown x = Edge.brimful();
        String before = Edge.stones(x);
        Check.due("image()", x.image(), 1);
        Check.that("all is as it was", Edge.stones(x).equals(before));
        Check.due("the tape stays", x.count(1), 120);
        Check.due("a sheet stays", x.write(1, 39, 0), 6);
        Check.due("no finding", x.status(-1), 0);
        Check.due("the text stays", x.house(), 15);
        Check.due("slack", x.now(1), 33);
    }

    /** Promise 40: what comes later doesn't come to the image. */
    private static void imageIsNotTouchedByWhatComes() {
        WallDown x = Edge.rich();
        WallDown twin = Edge.rich();
        twin.undo();
        String kept = Edge.stones(twin);
        x.wedge(0, 7);
        x.stone(0, 3, 5);
        x.stands();
        x.help();
        x.frees();
        x.kind(1);
        x.till();
        x.slackAll();
        x.of(1, 2, 5);
        x.house();
        x.first(0);
        x.bring(0);
        Check.due("undo()", x.undo(), 7);
        Check.that("what was kept", Edge.stones(x).equals(kept));
    }

    /** Promise 41: NONE: nothing is kept. */
    private static void undoOfNothingKept() {
        Edge.refused("undo() of a new one", WallDown::new, Check.NONE, WallDown::undo);
        Edge.refused("undo() of a full one", Edge::full, Check.NONE, WallDown::undo);
        Edge.refused("undo() behind tear()", () -> {
            WallDown x = Edge.rich();
            x.tear();
            return x;
        }, Check.NONE, WallDown::undo);
        Edge.refused("undo() of all, behind tear()", () -> {
            WallDown x = Edge.brimful();
            x.pull(0);
            x.tear();
            return x;
        }, Check.NONE, WallDown::undo);
    }

    /** Promise 41: which stays. */
    private static void undoKeepsIt() {
        WallDown x = Edge.rich();
        Check.due("undo()", x.undo(), 7);
        String once = Edge.stones(x);
        x.stone(0, 3, 30);
        x.slack(99);
        Check.due("again", x.undo(), 7);
        Check.that("the same", Edge.stones(x).equals(once));
        x.stone(0, 3, 30);
        Check.due("once more", x.undo(), 7);
        Check.due("it is kept", x.tear(), 1);
    }

    private static void undone(String part, Edge.Call call) {
        WallDown x = Edge.full();
        x.image();
        String before = Edge.stones(x);
        call.on(x);
        Check.that(part + " is changed", !Edge.stones(x).equals(before));
        Check.due("undo() of " + part, x.undo(), 28);
        Check.that(part + " is as it was", Edge.stones(x).equals(before));
    }

    /** Promise 40: all that section 1 tells, each part for itself. */
    private static void undoOfEachPart() {
        undone("KIND", x -> x.turn(3, 6, 5));
        undone("HIGH", x -> x.set(3, 6, 1, 30));
        undone("PRICE", x -> x.set(0, 0, 2, 999));
        undone("WEDGE", x -> x.wedge(3, 20));
        undone("BEAM", x -> x.beam(2, false));
        undone("SLACK", x -> x.slack(0));
        undone("NIGHT", x -> x.nights(99));
        undone("a pull, and PURSE", x -> x.pull(3));
        undone("a row", x -> x.bring(0));
        undone("a text", x -> {
            Edge.feed(x, "pull 0;stone 0 high 3;wedge 1 1");
            return x.house();
        });
    }

    /** Promise 40: THE TAPE not. */
    private static void undoLeavesTape() {
        WallDown x = new WallDown();
        Edge.feed(x, "slack 1");
        x.image();
        Check.due("wipe()", x.wipe(), 7);
        x.undo();
        Check.due("wiped it stays", x.count(1), 0);
        Edge.feed(x, "slack 44;".repeat(13) + "   ");
        Check.due("undo()", x.undo(), 0);
        Check.due("full it stays", x.count(1), 120);
        Check.due("and no more comes", x.feed(32, 1), Check.FULL);
        x.wipe();
        Edge.feed(x, "slack 45");
        x.undo();
        Check.due("as it was", x.house(), 1);
        Check.due("slack", x.now(1), 45);
    }

    /** Sheets are told by section 3, not by section 1. */
    private static void undoLeavesSheets() {
        WallDown x = new WallDown();
        x.sheet(0, 8, 2);
        x.sheet(1, 16, 3);
        x.image();
        x.write(0, 1, 7);
        x.sheet(1, 0, 0);
        x.sheet(2, 64, 40);
        Check.due("undo()", x.undo(), 0);
        Check.due("a number stays", x.write(0, 1, 0), 7);
        Check.due("a missing one stays", x.write(1, 0, 0), Check.MISSING);
        Check.due("a new one stays", x.write(2, 39, 0), 0);
    }

    /** Promise 44: undo() takes none back. */
    private static void undoLeavesStatus() {
        WallDown x = new WallDown();
        x.image();
        x.pull(0);
        x.pull(-1);
        x.undo();
        Check.due("all", x.status(-1), 2);
        Check.due("BEYOND", x.status(0), 1);
        Check.due("STATE", x.status(4), 1);
        x.tear();
        x.undo();
        Check.due("NONE", x.status(3), 1);
        Check.due("all", x.status(-1), 3);
    }

    /** Promise 41: from the last NIGHT to the first one. */
    private static void undoBringsNightBack() {
        WallDown x = Edge.told("rotten 0 high 30");
        x.image();
        for (int i = 0; i < 10; i++) {
            x.nights(99);
        }
        x.nights(9);
        Check.due("one more", x.nights(1), Check.STATE);
        Check.due("tall", x.of(0, 0, 3), 1);
        Check.due("undo()", x.undo(), 1);
        Check.due("night", x.now(0), 0);
        Check.due("tall", x.of(0, 0, 3), 30);
        Check.due("nights go again", x.nights(99), 29);
        WallDown y = Edge.late();
        y.image();
        Check.due("undo()", y.undo(), 2);
        Check.due("the last night", y.now(0), 999);
        Check.due("no more", y.nights(1), Check.STATE);
    }

    /** Promise 41: a full wall is full again, an empty one empty. */
    private static void undoWithAFullWall() {
        WallDown x = Edge.full();
        x.image();
        x.bring(0);
        Check.due("room", x.stone(0, 0, 5), 0);
        Check.due("undo()", x.undo(), 28);
        for (int wall = 0; wall < 4; wall++) {
            Check.due("no room", x.stone(0, wall, 5), Check.FULL);
        }
        WallDown y = new WallDown();
        y.image();
        for (int i = 0; i < 7; i++) {
            y.stone(0, 2, 5);
        }
        Check.due("undo()", y.undo(), 0);
        Check.due("room", y.stone(1, 2, 6), 0);
        Check.due("its kind", y.of(2, 0, 0), 1);
        Check.due("one alone", y.of(2, 1, 0), Check.BEYOND);
    }

    /** Promise 42: nothing is kept: 0, and no finding. */
    private static void tearOfNothing() {
        Edge.asked("tear() of a new one", WallDown::new, 0, WallDown::tear);
        Edge.asked("tear() of a full one", Edge::full, 0, WallDown::tear);
    }

    /** Promise 42: 1 if something was; all else stays. */
    private static void tearOfAll() {
        WallDown x = Edge.brimful();
        String before = Edge.stones(x);
        Check.due("tear()", x.tear(), 1);
        Check.that("nothing else is changed", Edge.stones(x).equals(before));
        Check.due("the tape stays", x.count(1), 120);
        Check.due("a sheet stays", x.write(0, 39, 5), 5);
        Check.due("again", x.tear(), 0);
        WallDown y = new WallDown();
        y.image();
        Check.due("an image of nothing is one", y.tear(), 1);
    }

    /** Promises 40 to 42: torn, and kept anew. */
    private static void tearThenUndo() {
        WallDown x = Edge.rich();
        x.tear();
        Check.due("undo()", x.undo(), Check.NONE);
        Check.due("image()", x.image(), 1);
        x.pull(0);
        Check.due("undo()", x.undo(), 7);
        Check.due("tear()", x.tear(), 1);
        Check.due("undo()", x.undo(), Check.NONE);
    }

    /** Promise 43: nothing at all. */
    private static void countOfNothing() {
        for (int what = 0; what < 4; what++) {
            int asked = what;
            Edge.asked("count(" + what + ")", WallDown::new, 0, x -> x.count(asked));
        }
    }

    /** Promise 43: as many as can be. */
    private static void countOfAll() {
        int[] due = {28, 120, 28 * 14, 280};
        for (int what = 0; what < 4; what++) {
            int asked = what;
            Edge.asked("count(" + what + ")", Edge::brimful, due[what], x -> x.count(asked));
        }
        WallDown x = Edge.full();
        for (int i = 0; i < 28; i++) {
            x.turn(i % 4, i / 4, 4);
            x.set(i % 4, i / 4, 1, 30);
            x.set(i % 4, i / 4, 2, 999);
            x.wedge(i % 4, 20);
        }
        Check.due("tops", x.count(2), 4 * 230);
        Check.due("coin", x.count(3), 28 * 2008);
    }

    /** Promise 43: BEYOND: another what. */
    private static void countBeyond() {
        int[] wrong = {-1, 4, Edge.LEAST, Edge.GREATEST};
        for (int what : wrong) {
            Edge.refused("count(" + what + ")", Edge::rich, Check.BEYOND, x -> x.count(what));
            Edge.refused("count(" + what + ") of nothing", WallDown::new, Check.BEYOND, x -> x.count(what));
        }
    }

    /** Promise 44: no findings yet. */
    private static void statusOfNothing() {
        for (int which = -1; which < 7; which++) {
            int asked = which;
            Edge.asked("status(" + which + ")", WallDown::new, 0, x -> x.status(asked));
        }
    }

    /** Promise 44: which -1, and 0 to 6. */
    private static void statusFirstAndLast() {
        WallDown x = new WallDown();
        x.sheet(0, 8, -1);
        x.sheet(0, 8, -1);
        x.pull(4);
        Check.due("all", x.status(-1), 3);
        Check.due("BEYOND", x.status(0), 1);
        Check.due("SIZE", x.status(6), 2);
        Check.due("asking counts nothing", x.status(-1), 3);
    }

    /** Promise 44: BEYOND (counted from then on): another one. */
    private static void statusBeyondIsCountedFromThenOn() {
        int[] wrong = {-2, 7, Edge.LEAST, Edge.GREATEST};
        for (int which : wrong) {
            Edge.refused("status(" + which + ")", Edge::rich, Check.BEYOND, x -> x.status(which));
            Edge.refused("status(" + which + ") of nothing", WallDown::new, Check.BEYOND, x -> x.status(which));
        }
        WallDown x = new WallDown();
        for (int i = 0; i < 5; i++) {
            Check.due("another one", x.status(7), Check.BEYOND);
            Check.due("counted", x.status(0), i + 1);
            Check.due("counted", x.status(-1), i + 1);
        }
    }

    /** FINDINGS: each has a number of its own, and status() a place for it. */
    private static void statusOfEachFinding() {
        Supplier<WallDown> made = () -> {
            WallDown x = Edge.brimful();
            x.sheet(3, 0, 0);
            return x;
        };
        Edge.refused("BEYOND", made, -1000000001, x -> x.pull(4));
        Edge.refused("FULL", made, -1000000002, x -> x.stone(0, 0, 1));
        Edge.refused("KIND", made, -1000000003, x -> x.as(0, 0, 1));
        Edge.refused("NONE", made, -1000000004, x -> x.first(4095));
        Edge.refused("STATE", made, -1000000005, x -> x.nights(1));
        Edge.refused("MISSING", made, -1000000006, x -> x.lays(3));
        Edge.refused("SIZE", made, -1000000007, x -> x.sheet(0, 8, -1));
    }

    /** FINDINGS: in longs, too. */
    private static void statusOfLongFindings() {
        WallDown x = Edge.brimful();
        long ways = x.ways(-1);
        long write = x.write(3, 0, 0);
        long read = x.read(0);
        Check.due("ways", ways, -1000000001L);
        Check.due("write", write, -1000000006L);
        Check.due("read", read, -1000000007L);
        Check.due("BEYOND", x.status(0), 1);
        Check.due("MISSING", x.status(5), 1);
        Check.due("SIZE", x.status(6), 1);
        Check.due("all", x.status(-1), 3);
    }

    /** Numbers of a sheet that look like a finding are none, nor is a FAULT, a 0 or a -1. */
    private static void statusOfAnswersThatAreNone() {
        WallDown x = Edge.told("stone 0;stone 1;slack 4");
        x.sheet(0, 64, 2);
        x.write(0, 0, -1000000001L);
        Check.due("a number", x.write(0, 0, -1), -1000000001L);
        Check.due("a number", x.write(0, 0, 4), -1);
        x.house();
        x.can(0);
        x.ways(0);
        x.lays(0);
        x.tear();
        x.wipe();
        x.pulls();
        x.reach(0);
        x.of(0, 0, 5);
        for (int which = -1; which < 7; which++) {
            Check.due("status(" + which + ")", x.status(which), 0);
        }
    }

    /** Promise 44: ever: as many as an object's calls can be. */
    private static void statusOfManyFindings() {
        WallDown x = new WallDown();
        for (int i = 0; i < 500; i++) {
            x.pull(i % 2 == 0 ? -1 : 0);
        }
        Check.due("all", x.status(-1), 500);
        Check.due("BEYOND", x.status(0), 250);
        Check.due("STATE", x.status(4), 250);
    }
}
