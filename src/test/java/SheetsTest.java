/** Promises 34 to 39: sheets. */
public final class SheetsTest {
    private static final int[] NO_SHEETS = {-1, 4, Integer.MIN_VALUE, Integer.MAX_VALUE};

    public static void main(String[] args) {
        sheet();
        sheetFindings();
        write();
        writeLowestBits();
        writeFindings();
        copy();
        copyOntoItself();
        copyFindings();
        lays();
        laysNoWalls();
        book();
        bookLowestBits();
        read();
        readFindings();
        Check.end();
    }

    private static void fill(WallDown x, int s, long... numbers) {
        for (int i = 0; i < numbers.length; i++) {
            x.write(s, i, numbers[i]);
        }
    }

    /** Reads by writing each number again. */
    private static void holds(String what, WallDown x, int s, long... numbers) {
        for (int i = 0; i < numbers.length; i++) {
            long was = x.write(s, i, 0);
            Check.due(what + ", number " + i, was, numbers[i]);
            x.write(s, i, was);
        }
    }

    /** Promise 34. */
    private static void sheet() {
        int[] widths = {8, 16, 64};
        for (int bits : widths) {
            WallDown x = new WallDown();
            for (int s = 0; s < 4; s++) {
                Check.due("sheet", x.sheet(s, bits, 40), 40);
                Check.due("its last number", x.write(s, 39, 5), 0);
                Check.due("anew", x.sheet(s, bits, 40), 40);
                Check.due("all are 0", x.write(s, 39, 5), 0);
                Check.due("empty", x.sheet(s, bits, 0), 0);
                Check.due("no number", x.write(s, 0, 5), Check.BEYOND);
                Check.due("missing", x.sheet(s, 0, 3), 0);
                Check.due("missing", x.write(s, 0, 5), Check.MISSING);
                Check.due("there again", x.sheet(s, bits, 3), 3);
                Check.due("all are 0", x.write(s, 2, 5), 0);
            }
        }
    }

    private static void sheetFindings() {
        WallDown x = new WallDown();
        x.sheet(0, 16, 2);
        x.write(0, 1, 77);
        for (int s : NO_SHEETS) {
            Check.due("no such sheet", x.sheet(s, 8, 1), Check.BEYOND);
            Check.due("no such sheet, asked first", x.sheet(s, 8, -1), Check.BEYOND);
        }
        int[] widths = {-1, 1, 7, 9, 32, 65, -8};
        for (int bits : widths) {
            Check.due("other bits", x.sheet(0, bits, 1), Check.BEYOND);
            Check.due("other bits, asked before SIZE", x.sheet(0, bits, -1), Check.BEYOND);
        }
        int[] known = {0, 8, 16, 64};
        for (int bits : known) {
            Check.due("n below 0", x.sheet(0, bits, -1), Check.SIZE);
            Check.due("n below 0", x.sheet(0, bits, Integer.MIN_VALUE), Check.SIZE);
            Check.due("n above 40", x.sheet(0, bits, 41), Check.BEYOND);
            Check.due("n above 40", x.sheet(0, bits, Integer.MAX_VALUE), Check.BEYOND);
        }
        Check.due("status(6)", x.status(6), 8);
        Check.due("nothing is changed", x.write(0, 1, 0), 77);
    }

    /** Promise 35. */
    private static void write() {
        WallDown x = new WallDown();
        x.sheet(2, 64, 3);
        Check.due("write", x.write(2, 1, Long.MIN_VALUE), 0);
        Check.due("write", x.write(2, 1, Long.MAX_VALUE), Long.MIN_VALUE);
        Check.due("write", x.write(2, 1, -1), Long.MAX_VALUE);
        Check.due("write", x.write(2, 1, 1L << 40), -1);
        holds("the sheet", x, 2, 0, 1L << 40, 0);
    }

    /** The numbers have a sign, as those of 64 bits have. */
    private static void writeLowestBits() {
        WallDown x = new WallDown();
        x.sheet(0, 8, 1);
        x.sheet(1, 16, 1);
        long[][] due = {
            {0, 0, 0}, {127, 127, 127}, {128, -128, 128}, {255, -1, 255}, {256, 0, 256}, {-1, -1, -1},
            {32767, -1, 32767}, {32768, 0, -32768}, {65535, -1, -1}, {65536, 0, 0}, {-128, -128, -128},
            {-129, 127, -129}, {-32769, -1, 32767}, {Long.MIN_VALUE, 0, 0}, {Long.MAX_VALUE, -1, -1},
            {1L << 32, 0, 0}, {300, 44, 300},
        };
        for (long[] d : due) {
            x.write(0, 0, d[0]);
            x.write(1, 0, d[0]);
            Check.due(d[0] + " in 8 bits", x.write(0, 0, 0), d[1]);
            Check.due(d[0] + " in 16 bits", x.write(1, 0, 0), d[2]);
        }
    }

    private static void writeFindings() {
        WallDown x = new WallDown();
        x.sheet(0, 8, 2);
        for (int s : NO_SHEETS) {
            Check.due("no such sheet", x.write(s, 0, 1), Check.BEYOND);
        }
        Check.due("missing, asked before the number", x.write(1, -1, 1), Check.MISSING);
        int[] wrong = {-1, 2, 40, Integer.MIN_VALUE, Integer.MAX_VALUE};
        for (int i : wrong) {
            Check.due("no such number", x.write(0, i, 1), Check.BEYOND);
        }
        Check.due("status(5)", x.status(5), 1);
        Check.due("status(0)", x.status(0), NO_SHEETS.length + wrong.length);
        holds("nothing is written", x, 0, 0, 0);
    }

    /** Promise 36. */
    private static void copy() {
        WallDown x = new WallDown();
        x.sheet(0, 16, 4);
        x.sheet(3, 16, 3);
        fill(x, 0, 1, 2, 3, 4);
        fill(x, 3, 7, 8, 9);
        Check.due("copy", x.copy(0, 1, 3, 0, 2), 2);
        holds("to", x, 3, 2, 3, 9);
        holds("from", x, 0, 1, 2, 3, 4);
        Check.due("none", x.copy(0, 0, 3, 0, 0), 0);
        Check.due("none at the end", x.copy(0, 4, 3, 3, 0), 0);
        Check.due("the whole", x.copy(3, 0, 0, 1, 3), 3);
        holds("to", x, 0, 1, 2, 3, 9);
    }

    private static void copyOntoItself() {
        WallDown x = new WallDown();
        x.sheet(1, 64, 5);
        fill(x, 1, 1, 2, 3, 4, 5);
        Check.due("upwards", x.copy(1, 0, 1, 1, 4), 4);
        holds("as they all were", x, 1, 1, 1, 2, 3, 4);
        Check.due("downwards", x.copy(1, 2, 1, 0, 3), 3);
        holds("as they all were", x, 1, 2, 3, 4, 3, 4);
    }

    private static void copyFindings() {
        WallDown x = new WallDown();
        x.sheet(0, 8, 4);
        x.sheet(1, 8, 2);
        x.sheet(2, 16, 4);
        fill(x, 0, 1, 2, 3, 4);
        for (int s : NO_SHEETS) {
            Check.due("no such sheet", x.copy(s, 0, 0, 0, 1), Check.BEYOND);
            Check.due("no such sheet", x.copy(0, 0, s, 0, 1), Check.BEYOND);
            Check.due("no such sheet, asked before MISSING", x.copy(3, 0, s, 0, 1), Check.BEYOND);
        }
        Check.due("missing", x.copy(3, 0, 0, 0, 1), Check.MISSING);
        Check.due("missing", x.copy(0, 0, 3, 0, 1), Check.MISSING);
        Check.due("missing, asked before KIND and BEYOND", x.copy(3, -1, 2, 0, 1), Check.MISSING);
        Check.due("not of as many bits", x.copy(0, 0, 2, 0, 1), Check.KIND);
        Check.due("not of as many bits, asked before BEYOND", x.copy(0, 0, 2, 0, -1), Check.KIND);
        int[][] wrong = {{-1, 0, 1}, {0, -1, 1}, {0, 0, -1}, {0, 0, 3}, {3, 0, 2}, {4, 0, 1}, {5, 0, 0}, {0, 3, 0},
            {0, 1, 2}, {0, 2, 1}, {Integer.MAX_VALUE, 0, 1}, {0, Integer.MAX_VALUE, 1}, {1, 1, Integer.MAX_VALUE},
            {Integer.MAX_VALUE, 0, Integer.MAX_VALUE}, {Integer.MIN_VALUE, 0, Integer.MIN_VALUE},
            {0, 0, Integer.MIN_VALUE}};
        for (int[] w : wrong) {
            Check.due("copy(0, " + w[0] + ", 1, " + w[1] + ", " + w[2] + ")", x.copy(0, w[0], 1, w[1], w[2]), Check.BEYOND);
        }
        Check.due("status(5)", x.status(5), 3);
        Check.due("status(2)", x.status(2), 2);
        Check.due("status(0)", x.status(0), 3 * NO_SHEETS.length + wrong.length);
        holds("nothing is copied", x, 1, 0, 0);
    }

    /** Promise 37. */
    private static void lays() {
        WallDown x = Check.house("stone 0 price 1;key 0 price 2;stone 1 price 4;stone 1 price 8;slack 99");
        x.sheet(0, 8, 4);
        fill(x, 0, 0, 1, 0, 0);
        Check.due("up to that which can't be done", x.lays(0), 3);
        Check.due("stand", x.now(5), 8);
        Check.due("purse", x.now(2), 1 + 4 + 7);
        Check.due("no finding", x.status(-1), 0);
        Check.due("none", x.lays(0), 0);
        x.sheet(1, 64, 1);
        x.write(1, 0, 1);
        Check.due("all", x.lays(1), 1);
        Check.due("stand", x.now(5), 0);
        x.sheet(1, 64, 0);
        Check.due("an empty sheet", x.lays(1), 0);
        for (int s : NO_SHEETS) {
            Check.due("no such sheet", x.lays(s), Check.BEYOND);
        }
        Check.due("missing", x.lays(2), Check.MISSING);
        WallDown y = Check.house("key 0;stone 1;stone 1;slack 99");
        y.sheet(0, 8, 3);
        Check.due("a key that waits", y.lays(0), 0);
        fill(y, 0, 1, 0, 1);
        Check.due("and no more", y.lays(0), 3);
    }

    private static void laysNoWalls() {
        long[] none = {4, -1, 255, 256 + 9, 1L << 32, (1L << 32) + 1, Long.MIN_VALUE, Long.MAX_VALUE};
        for (long wall : none) {
            WallDown x = Check.house("stone 0;stone 0");
            x.sheet(0, 64, 3);
            x.write(0, 1, wall);
            Check.due("up to " + wall, x.lays(0), 1);
            Check.due("stand", x.now(5), 1);
        }
    }

    /** Promise 38. */
    private static void book() {
        WallDown x = Check.house("stone 0 price 1;stone 0 price 100;stone 1 price 40;false 1;stone 3 price 30");
        x.sheet(0, 16, 3);
        fill(x, 0, 7, 7, 7);
        Check.due("a short book", x.book(0), 3);
        holds("the book", x, 0, 0, 40, 101);
        x.sheet(1, 64, 40);
        x.write(1, 28, 7);
        x.write(1, 29, 7);
        Check.due("a long book", x.book(1), 29);
        holds("the book", x, 1, 0, 40, 101, 141, 171, 171);
        Check.due("for 28", x.write(1, 28, 0), 171);
        Check.due("behind it", x.write(1, 29, 0), 7);
        x.sheet(2, 8, 0);
        Check.due("an empty one", x.book(2), 0);
        x.sheet(2, 64, 29);
        Check.due("just 29", x.book(2), 29);
        x.sheet(2, 64, 28);
        Check.due("just 28", x.book(2), 28);
        for (int s : NO_SHEETS) {
            Check.due("no such sheet", x.book(s), Check.BEYOND);
        }
        Check.due("missing", x.book(3), Check.MISSING);
        Check.due("nothing is pulled", x.now(2), 0);
    }

    private static void bookLowestBits() {
        WallDown x = Check.house("stone 0 price 300");
        x.sheet(0, 8, 2);
        Check.due("book", x.book(0), 2);
        holds("the lowest bits", x, 0, 0, 44);
    }

    /** Promise 39. */
    private static void read() {
        WallDown x = Check.house("stone 0 price 5;stone 0 price 7;stone 1 price 5;stone 1 price 7;slack 99");
        x.sheet(0, 16, 0);
        Check.due("no numbers", x.read(0), 1);
        x.sheet(0, 16, 1);
        x.write(0, 0, 5);
        Check.due("either wall", x.read(0), 2);
        x.write(0, 0, 7);
        Check.due("none", x.read(0), 0);
        x.sheet(0, 64, 4);
        fill(x, 0, 5, 5, 7, 7);
        Check.due("four orders", x.read(0), 4);
        fill(x, 0, 5, 7, 5, 7);
        Check.due("two orders", x.read(0), 2);
        x.sheet(0, 64, 2);
        fill(x, 0, 5, 7);
        Check.due("two rows of two", x.read(0), 2);
        x.write(0, 1, 7 + (1L << 32));
        Check.due("just that", x.read(0), 0);
        x.sheet(0, 64, 5);
        fill(x, 0, 5, 5, 7, 7);
        Check.due("more than there are stones", x.read(0), 0);
        x.turn(0, 0, 5);
        fill(x, 0, 0, 5, 7, 7);
        Check.due("still more", x.read(0), 0);
        x.sheet(0, 8, 2);
        fill(x, 0, 0, 5);
        Check.due("a false one brings 0", x.read(0), 1);
        x.slack(0);
        Check.due("only what can be pulled", x.read(0), 0);
        Check.due("nothing is pulled", x.now(5), 18);
    }

    private static void readFindings() {
        WallDown x = new WallDown();
        for (int wall = 0; wall < 4; wall++) {
            for (int i = 0; i < 7; i++) {
                x.stone(0, wall, 1);
            }
        }
        x.sheet(0, 8, 28);
        for (int i = 0; i < 28; i++) {
            x.write(0, i, 10);
        }
        Check.due("all orders", x.read(0), 472518347558400L);
        x.sheet(0, 8, 29);
        Check.due("too many", x.read(0), Check.SIZE);
        x.sheet(0, 64, 40);
        Check.due("too many", x.read(0), Check.SIZE);
        for (int s : NO_SHEETS) {
            Check.due("no such sheet", x.read(s), Check.BEYOND);
        }
        Check.due("missing", x.read(1), Check.MISSING);
        Check.due("status(6)", x.status(6), 2);
    }
}
