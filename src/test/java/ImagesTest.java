/** Promises 40 to 44: images, counts and findings. */
public final class ImagesTest {
    public static void main(String[] args) {
        imageAndUndo();
        undoLeavesTheRest();
        latestImage();
        tear();
        count();
        status();
        statusOfEachFinding();
        statusBeyond();
        Check.end();
    }

    /** Promises 40 and 41. */
    private static void imageAndUndo() {
        WallDown x = Check.house("stone 0 high 9 price 3;rotten 1 high 7;carved 3;wedge 2 4;slack 30;beam 1 off");
        x.pull(0);
        x.nights(2);
        x.stone(5, 2, 11);
        String before = Check.picture(x);
        Check.due("image", x.image(), 1);
        x.pull(1);
        x.pull(3);
        x.nights(9);
        x.slack(1);
        x.beam(1, true);
        x.beam(0, false);
        x.wedge(2, 0);
        x.wedge(0, 9);
        x.turn(2, 0, 1);
        x.set(2, 0, 1, 30);
        x.set(2, 0, 2, 900);
        x.stone(0, 0, 1);
        Check.that("all is unlike", !Check.picture(x).equals(before));
        Check.due("undo", x.undo(), 3);
        Check.that("all is as it was", Check.picture(x).equals(before));
        x.pull(1);
        Check.due("undo again", x.undo(), 3);
        Check.that("the image stays", Check.picture(x).equals(before));
        Check.due("purse", x.now(2), 3);
    }

    private static void undoLeavesTheRest() {
        WallDown x = Check.house("stone 0");
        x.sheet(0, 8, 1);
        x.image();
        Check.feed(x, "slack 3");
        x.write(0, 0, 9);
        x.pull(4);
        Check.due("undo", x.undo(), 1);
        Check.due("the tape stays", x.count(1), 7);
        Check.due("the sheet stays", x.write(0, 0, 0), 9);
        Check.due("status stays", x.status(-1), 1);
        Check.due("the tape is as it was", x.house(), 1);
        Check.due("slack", x.now(1), 3);
    }

    private static void latestImage() {
        WallDown x = new WallDown();
        x.image();
        x.stone(0, 0, 5);
        x.image();
        x.stone(0, 0, 5);
        Check.due("the latest", x.undo(), 1);
        Check.due("it stays", x.undo(), 1);
    }

    /** Promise 42. */
    private static void tear() {
        WallDown x = new WallDown();
        Check.due("nothing is kept", x.tear(), 0);
        x.image();
        x.stone(0, 0, 5);
        x.image();
        Check.due("something is", x.tear(), 1);
        Check.due("nothing is kept", x.tear(), 0);
        Check.due("undo", x.undo(), Check.NONE);
        Check.due("stones stay", x.now(4), 1);
        Check.due("status(3)", x.status(3), 1);
    }

    /** Promise 43. */
    private static void count() {
        WallDown x = Check.house("stone 0 high 9 price 3;rotten 1 high 7 price 9;carved 3 high 2 price 1;wedge 2 4");
        x.nights(2);
        Check.feed(x, "pull");
        Check.due("stones", x.count(0), 3);
        Check.due("bytes", x.count(1), 4);
        Check.due("tops", x.count(2), 9 + 5 + 4 + 2);
        Check.due("coin", x.count(3), 3 + 4 + 12);
        int[] wrong = {-1, 4, Integer.MAX_VALUE, Integer.MIN_VALUE};
        for (int what : wrong) {
            Check.due("count(" + what + ")", x.count(what), Check.BEYOND);
        }
        Check.due("status(0)", x.status(0), 4);
    }

    /** Promise 44. */
    private static void status() {
        WallDown x = new WallDown();
        x.image();
        x.pull(0);
        x.pull(9);
        x.undo();
        Check.due("undo takes none back", x.status(-1), 2);
        Check.due("STATE", x.status(4), 1);
        Check.due("BEYOND", x.status(0), 1);
        x.house();
        Check.due("a fault is no finding", x.status(-1), 2);
        x.first(0);
        Check.due("an answer of a call that asks is one, too", x.status(3), 1);
    }

    private static void statusOfEachFinding() {
        WallDown x = Check.house("stone 0;stone 0;stone 0;stone 0;stone 0;stone 0;stone 0");
        x.stone(0, 4, 1);
        x.stone(0, 0, 1);
        x.stone(0, 0, 1);
        x.as(0, 0, 1);
        x.as(0, 0, 2);
        x.as(0, 0, 3);
        x.undo();
        x.undo();
        x.undo();
        x.undo();
        for (int i = 0; i < 5; i++) {
            x.pull(1);
        }
        for (int i = 0; i < 6; i++) {
            x.read(0);
        }
        for (int i = 0; i < 7; i++) {
            x.sheet(0, 8, -1);
        }
        for (int which = 0; which < 7; which++) {
            Check.due("status(" + which + ")", x.status(which), which + 1);
        }
        Check.due("all", x.status(-1), 28);
    }

    private static void statusBeyond() {
        WallDown x = new WallDown();
        Check.due("another one", x.status(7), Check.BEYOND);
        Check.due("counted", x.status(0), 1);
        Check.due("another one", x.status(-2), Check.BEYOND);
        Check.due("another one", x.status(Integer.MIN_VALUE), Check.BEYOND);
        Check.due("another one", x.status(Integer.MAX_VALUE), Check.BEYOND);
        Check.due("counted", x.status(-1), 4);
    }
}
