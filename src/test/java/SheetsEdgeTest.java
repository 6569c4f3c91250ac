import java.util.function.Supplier;

/** Promises 34 to 39 and section 3: sheets of no numbers and of 40, MISSING ones, and each finding. */
public final class SheetsEdgeTest {
    private static final int[] NO_SHEETS = {-1, 4, Edge.LEAST, Edge.GREATEST};
    private static final int[] WIDTHS = {8, 16, 64};
    private static final long ORDERS_OF_ALL = 472518347558400L;

    public static void main(String[] args) {
        sheetOfNoNumbers();
        sheetOfAllNumbers();
        sheetMissing();
        sheetAnewIsAllNoughts();
        sheetNoSuchSheet();
        sheetOtherBits();
        sheetSize();
        sheetTooLong();
        sheetFindingsInOrder();
        writeFirstAndLast();
        writeAtTheEndsOfItsBits();
        writeNoSuchSheet();
        writeMissing();
        writeNoSuchNumber();
        writeToNoNumbers();
        copyOfNone();
        copyOfAll();
        copyAsTheyAllWere();
        copyNoSuchSheet();
        copyMissing();
        copyKind();
        copyNotSoMany();
        copyBelowNought();
        copyThatWouldWrap();
        copyFindingsInOrder();
        laysOfNoNumbers();
        laysOfAllNumbers();
        laysUpToOneThatIsNone();
        laysUpToOneThatCanNotBeDone();
        laysFindings();
        bookOfNoNumbers();
        bookUpTo28();
        bookOfNoStones();
        bookOfTheDearestHouse();
        bookFindings();
        readOfNoNumbers();
        readOf28();
        readOfMoreThanThereAre();
        readJustThat();
        readSize();
        readFindingsInOrder();
        Check.end();
    }

    /** What a number is; it stays. */
    private static long number(WallDown x, int s, int i) {
        long was = x.write(s, i, 0);
        x.write(s, i, was);
        return was;
    }

    /** Promise 34: n 0. */
    private static void sheetOfNoNumbers() {
        for (int bits : WIDTHS) {
            for (int s = 0; s < 4; s++) {
                WallDown x = new WallDown();
                Check.due("sheet(" + s + ", " + bits + ", 0)", x.sheet(s, bits, 0), 0);
                Check.due("it is there, without a number", x.write(s, 0, 1), Check.BEYOND);
                Check.due("it is there", x.lays(s), 0);
                Check.due("the next isn't", x.lays((s + 1) % 4), Check.MISSING);
            }
        }
    }

    /** Promise 34: n 40. */
    private static void sheetOfAllNumbers() {
        for (int bits : WIDTHS) {
            for (int s = 0; s < 4; s++) {
                WallDown x = new WallDown();
                Check.due("sheet(" + s + ", " + bits + ", 40)", x.sheet(s, bits, 40), 40);
                for (int i = 0; i < 40; i++) {
                    Check.due("number " + i, x.write(s, i, i + 1), 0);
                }
                for (int i = 0; i < 40; i++) {
                    Check.due("number " + i, number(x, s, i), i + 1);
                }
                Check.due("no number 40", x.write(s, 40, 1), Check.BEYOND);
            }
        }
    }

    /** Promise 34: bits 0: it is MISSING: 0. */
    private static void sheetMissing() {
        int[] sizes = {0, 1, 40};
        for (int n : sizes) {
            WallDown x = Edge.rich();
            for (int s = 0; s < 4; s++) {
                Check.due("sheet(" + s + ", 0, " + n + ")", x.sheet(s, 0, n), 0);
                Check.due("it is missing", x.write(s, 0, 1), Check.MISSING);
            }
        }
        WallDown y = Edge.rich();
        y.sheet(0, 0, 3);
        Check.due("another one stays", y.write(1, 1, 0), 300);
    }

    /** Promise 34: all 0, whatever it had. */
    private static void sheetAnewIsAllNoughts() {
        WallDown x = new WallDown();
        x.sheet(0, 64, 40);
        for (int i = 0; i < 40; i++) {
            x.write(0, i, -1);
        }
        Check.due("shorter", x.sheet(0, 64, 2), 2);
        Check.due("longer", x.sheet(0, 64, 40), 40);
        for (int i = 0; i < 40; i++) {
            Check.due("number " + i, x.write(0, i, -1), 0);
        }
        x.sheet(0, 0, 0);
        x.sheet(0, 8, 40);
        for (int i = 0; i < 40; i++) {
            Check.due("number " + i + " of one that was missing", x.write(0, i, 7), 0);
        }
    }

    /** Promise 34: BEYOND: no such sheet. */
    private static void sheetNoSuchSheet() {
        for (int s : NO_SHEETS) {
            Edge.refused("sheet(" + s + ", 8, 1)", Edge::rich, Check.BEYOND, x -> x.sheet(s, 8, 1));
            Edge.refused("sheet(" + s + ", 0, 0)", Edge::rich, Check.BEYOND, x -> x.sheet(s, 0, 0));
        }
    }

    /** Promise 34: BEYOND: other bits. */
    private static void sheetOtherBits() {
        int[] wrong = {-1, 1, 7, 9, 15, 17, 32, 63, 65, 128, -8, -64, Edge.LEAST, Edge.GREATEST};
        for (int bits : wrong) {
            Edge.refused("sheet(0, " + bits + ", 1)", Edge::rich, Check.BEYOND, x -> x.sheet(0, bits, 1));
            Edge.refused("sheet(3, " + bits + ", 0)", Edge::rich, Check.BEYOND, x -> x.sheet(3, bits, 0));
        }
    }

    /** Promise 34: SIZE: n is below 0 (also with bits 0). */
    private static void sheetSize() {
        int[] widths = {0, 8, 16, 64};
        for (int bits : widths) {
            for (int s = 0; s < 4; s++) {
                int to = s;
                Edge.refused("sheet(" + s + ", " + bits + ", -1)", Edge::rich, Check.SIZE, x -> x.sheet(to, bits, -1));
                Edge.refused("sheet(" + s + ", " + bits + ", least)", Edge::rich, Check.SIZE,
                        x -> x.sheet(to, bits, Edge.LEAST));
            }
        }
    }

    /** Promise 34: BEYOND: n is above 40 (also with bits 0). */
    private static void sheetTooLong() {
        int[] widths = {0, 8, 16, 64};
        for (int bits : widths) {
            for (int s = 0; s < 4; s++) {
                int to = s;
                Edge.refused("sheet(" + s + ", " + bits + ", 41)", Edge::rich, Check.BEYOND,
                        x -> x.sheet(to, bits, 41));
                Edge.refused("sheet(" + s + ", " + bits + ", greatest)", Edge::rich, Check.BEYOND,
                        x -> x.sheet(to, bits, Edge.GREATEST));
            }
        }
        Edge.refused("41 in place of 40", Edge::brimful, Check.BEYOND, x -> x.sheet(0, 64, 41));
    }

    /** Promise 34: findings in their order: BEYOND (sheet, bits), SIZE, BEYOND (n). */
    private static void sheetFindingsInOrder() {
        for (int s : NO_SHEETS) {
            Edge.refused("no such sheet, n below 0", Edge::rich, Check.BEYOND, x -> x.sheet(s, 8, -1));
            Edge.refused("no such sheet, other bits, n below 0", Edge::rich, Check.BEYOND, x -> x.sheet(s, 9, -1));
            Edge.refused("no such sheet, MISSING, n below 0", Edge::rich, Check.BEYOND, x -> x.sheet(s, 0, -1));
        }
        int[] wrong = {-1, 1, 32, 65};
        for (int bits : wrong) {
            Edge.refused("other bits, n below 0", Edge::rich, Check.BEYOND, x -> x.sheet(0, bits, -1));
            Edge.refused("other bits, n above 40: one finding", Edge::rich, Check.BEYOND, x -> x.sheet(0, bits, 41));
        }
    }

    /** Promise 35: the first and the last number. */
    private static void writeFirstAndLast() {
        for (int bits : WIDTHS) {
            WallDown x = new WallDown();
            x.sheet(3, bits, 40);
            Check.due("the first", x.write(3, 0, 5), 0);
            Check.due("the last", x.write(3, 39, 6), 0);
            Check.due("the first", x.write(3, 0, 7), 5);
            Check.due("the last", x.write(3, 39, 7), 6);
            Check.due("the second", x.write(3, 1, 7), 0);
            x.sheet(0, bits, 1);
            Check.due("of one", x.write(0, 0, 9), 0);
            Check.due("of one", x.write(0, 0, 9), 9);
        }
    }

    private static void wraps(int bits, long v, long due) {
        WallDown x = new WallDown();
        x.sheet(0, bits, 3);
        x.write(0, 1, v);
        Check.due(v + " in " + bits + " bits", x.write(0, 1, 0), due);
        Check.due("the one before it", x.write(0, 0, 0), 0);
        Check.due("the one behind it", x.write(0, 2, 0), 0);
    }

    /** Promise 35: v (its lowest bits); read with a sign, as NOTES.md says. */
    private static void writeAtTheEndsOfItsBits() {
        wraps(8, 127, 127);
        wraps(8, 128, -128);
        wraps(8, -128, -128);
        wraps(8, -129, 127);
        wraps(8, 255, -1);
        wraps(8, 256, 0);
        wraps(8, -256, 0);
        wraps(16, 32767, 32767);
        wraps(16, 32768, -32768);
        wraps(16, -32768, -32768);
        wraps(16, -32769, 32767);
        wraps(16, 65535, -1);
        wraps(16, 65536, 0);
        for (int bits : WIDTHS) {
            wraps(bits, -1, -1);
            wraps(bits, 0, 0);
            wraps(bits, Long.MAX_VALUE, bits == 64 ? Long.MAX_VALUE : -1);
            wraps(bits, Long.MIN_VALUE, bits == 64 ? Long.MIN_VALUE : 0);
            wraps(bits, 1L << 32, bits == 64 ? 1L << 32 : 0);
            wraps(bits, (1L << 32) + 5, bits == 64 ? (1L << 32) + 5 : 5);
        }
    }

    /** Promise 35: BEYOND: no such sheet. */
    private static void writeNoSuchSheet() {
        for (int s : NO_SHEETS) {
            Edge.refused("write(" + s + ", 0, 1)", Edge::rich, Check.BEYOND, x -> x.write(s, 0, 1));
            Edge.refused("write(" + s + ", -1, 1)", Edge::rich, Check.BEYOND, x -> x.write(s, -1, 1));
        }
    }

    /** Promise 35: MISSING; asked before the number. */
    private static void writeMissing() {
        int[] numbers = {0, -1, 39, 40, Edge.LEAST, Edge.GREATEST};
        for (int i : numbers) {
            Edge.refused("write(3, " + i + ", 1)", Edge::rich, Check.MISSING, x -> x.write(3, i, 1));
            Edge.refused("write(0, " + i + ", 1)", WallDown::new, Check.MISSING, x -> x.write(0, i, 1));
        }
    }

    /** Promise 35: BEYOND: no such number. */
    private static void writeNoSuchNumber() {
        int[] wrong = {-1, 3, 39, 40, Edge.LEAST, Edge.GREATEST};
        for (int i : wrong) {
            Edge.refused("write(0, " + i + ", 1) of 3", Edge::rich, Check.BEYOND, x -> x.write(0, i, 1));
        }
        Edge.refused("write(0, 40, 1) of 40", Edge::brimful, Check.BEYOND, x -> x.write(0, 40, 1));
        Edge.refused("write(0, -1, 1) of 40", Edge::brimful, Check.BEYOND, x -> x.write(0, -1, 1));
    }

    /** Promise 35: a sheet of no numbers. */
    private static void writeToNoNumbers() {
        int[] wrong = {-1, 0, 1, 39};
        for (int i : wrong) {
            Edge.refused("write(2, " + i + ", 1) of none", Edge::rich, Check.BEYOND, x -> x.write(2, i, 1));
        }
    }

    /** Promise 36: n 0, from the first number to the one behind the last. */
    private static void copyOfNone() {
        Edge.asked("from the first", Edge::rich, 0, x -> x.copy(0, 0, 0, 0, 0));
        Edge.asked("from the end", Edge::rich, 0, x -> x.copy(0, 3, 0, 3, 0));
        Edge.asked("of no numbers", Edge::rich, 0, x -> x.copy(2, 0, 2, 0, 0));
        Edge.asked("from the end of 40", Edge::brimful, 0, x -> x.copy(0, 40, 0, 40, 0));
        Edge.refused("from behind the end", Edge::rich, Check.BEYOND, x -> x.copy(0, 4, 0, 0, 0));
        Edge.refused("to behind the end", Edge::rich, Check.BEYOND, x -> x.copy(0, 0, 0, 4, 0));
        Edge.refused("from behind the end of none", Edge::rich, Check.BEYOND, x -> x.copy(2, 1, 2, 0, 0));
        Edge.refused("from behind the end of 40", Edge::brimful, Check.BEYOND, x -> x.copy(0, 41, 0, 0, 0));
    }

    /** Promise 36: n 40. */
    private static void copyOfAll() {
        WallDown x = new WallDown();
        x.sheet(0, 16, 40);
        x.sheet(3, 16, 40);
        for (int i = 0; i < 40; i++) {
            x.write(0, i, 1000 + i);
        }
        Check.due("copy", x.copy(0, 0, 3, 0, 40), 40);
        for (int i = 0; i < 40; i++) {
            Check.due("to " + i, number(x, 3, i), 1000 + i);
            Check.due("from " + i, number(x, 0, i), 1000 + i);
        }
        Check.due("the last alone", x.copy(0, 0, 3, 39, 1), 1);
        Check.due("it came", number(x, 3, 39), 1000);
        Check.due("the one before it stays", number(x, 3, 38), 1038);
        Check.due("from the last", x.copy(0, 39, 3, 0, 1), 1);
        Check.due("it came", number(x, 3, 0), 1039);
        Check.due("no finding", x.status(-1), 0);
    }

    /** Promise 36: as they all were, within one sheet. */
    private static void copyAsTheyAllWere() {
        WallDown x = new WallDown();
        x.sheet(0, 8, 40);
        for (int i = 0; i < 40; i++) {
            x.write(0, i, i);
        }
        Check.due("upwards by one", x.copy(0, 0, 0, 1, 39), 39);
        for (int i = 0; i < 40; i++) {
            Check.due("number " + i, number(x, 0, i), Math.max(0, i - 1));
        }
        Check.due("downwards by one", x.copy(0, 1, 0, 0, 39), 39);
        for (int i = 0; i < 40; i++) {
            Check.due("number " + i, number(x, 0, i), Math.min(38, i));
        }
        Check.due("onto itself", x.copy(0, 0, 0, 0, 40), 40);
        Check.due("it stays", number(x, 0, 38), 38);
    }

    /** Promise 36: BEYOND: no such sheet (either). */
    private static void copyNoSuchSheet() {
        for (int s : NO_SHEETS) {
            Edge.refused("copy(" + s + ", 0, 0, 0, 1)", Edge::rich, Check.BEYOND, x -> x.copy(s, 0, 0, 0, 1));
            Edge.refused("copy(0, 0, " + s + ", 0, 1)", Edge::rich, Check.BEYOND, x -> x.copy(0, 0, s, 0, 1));
            Edge.refused("copy(" + s + ", 0, " + s + ", 0, 0)", Edge::rich, Check.BEYOND, x -> x.copy(s, 0, s, 0, 0));
        }
    }

    /** Promise 36: MISSING: one is. */
    private static void copyMissing() {
        Edge.refused("from a missing one", Edge::rich, Check.MISSING, x -> x.copy(3, 0, 0, 0, 1));
        Edge.refused("to a missing one", Edge::rich, Check.MISSING, x -> x.copy(0, 0, 3, 0, 1));
        Edge.refused("both", Edge::rich, Check.MISSING, x -> x.copy(3, 0, 3, 0, 0));
        Edge.refused("none of it", Edge::rich, Check.MISSING, x -> x.copy(0, 0, 3, 0, 0));
    }

    /** Promise 36: KIND: they are not of as many bits. */
    private static void copyKind() {
        Edge.refused("64 to 16", Edge::rich, Check.KIND, x -> x.copy(0, 0, 1, 0, 1));
        Edge.refused("16 to 64", Edge::rich, Check.KIND, x -> x.copy(1, 0, 0, 0, 1));
        Edge.refused("none of it", Edge::rich, Check.KIND, x -> x.copy(2, 0, 0, 0, 0));
        Edge.refused("8 to 64, of 40", Edge::brimful, Check.KIND, x -> x.copy(1, 0, 0, 0, 40));
    }

    /** Sheets 0 of four and 1 of two numbers. */
    private static WallDown unlike() {
        WallDown x = new WallDown();
        x.sheet(0, 16, 4);
        x.sheet(1, 16, 2);
        for (int i = 0; i < 4; i++) {
            x.write(0, i, 10 + i);
        }
        x.write(1, 0, 20);
        x.write(1, 1, 21);
        return x;
    }

    private static void copyBeyond(int from, int to, int n) {
        String name = "copy(0, " + from + ", 1, " + to + ", " + n + ")";
        Edge.refused(name, SheetsEdgeTest::unlike, Check.BEYOND, x -> x.copy(0, from, 1, to, n));
    }

    /** Promise 36: BEYOND: one has not so many. */
    private static void copyNotSoMany() {
        WallDown x = unlike();
        Check.due("just so many", x.copy(0, 2, 1, 0, 2), 2);
        Check.due("they came", number(x, 1, 1), 13);
        copyBeyond(3, 0, 2);
        copyBeyond(4, 0, 1);
        copyBeyond(0, 0, 3);
        copyBeyond(0, 1, 2);
        copyBeyond(0, 2, 1);
        copyBeyond(0, 0, 5);
        Edge.refused("41 of 40", Edge::brimful, Check.BEYOND, y -> y.copy(0, 0, 0, 0, 41));
        Edge.refused("40 of 40 from the second", Edge::brimful, Check.BEYOND, y -> y.copy(0, 1, 0, 0, 40));
        Edge.refused("40 of 40 to the second", Edge::brimful, Check.BEYOND, y -> y.copy(0, 0, 0, 1, 40));
    }

    /** Promise 36: BEYOND: from, to or n is below 0. */
    private static void copyBelowNought() {
        copyBeyond(-1, 0, 1);
        copyBeyond(0, -1, 1);
        copyBeyond(0, 0, -1);
        copyBeyond(-1, 0, 0);
        copyBeyond(0, -1, 0);
        copyBeyond(1, 1, -1);
        copyBeyond(-1, -1, -1);
        copyBeyond(Edge.LEAST, 0, 1);
        copyBeyond(0, Edge.LEAST, 1);
        copyBeyond(0, 0, Edge.LEAST);
    }

    /** Promise 36: numbers of which a sum would wrap around. */
    private static void copyThatWouldWrap() {
        copyBeyond(Edge.GREATEST, 0, 1);
        copyBeyond(0, Edge.GREATEST, 1);
        copyBeyond(1, 0, Edge.GREATEST);
        copyBeyond(0, 1, Edge.GREATEST);
        copyBeyond(0, 0, Edge.GREATEST);
        copyBeyond(Edge.GREATEST, Edge.GREATEST, Edge.GREATEST);
        copyBeyond(Edge.GREATEST, Edge.GREATEST, 2);
        copyBeyond(Edge.LEAST, Edge.LEAST, Edge.LEAST);
        copyBeyond(Edge.GREATEST, 0, Edge.LEAST);
    }

    /** Promise 36: findings in their order: BEYOND, MISSING, KIND, BEYOND. */
    private static void copyFindingsInOrder() {
        for (int s : NO_SHEETS) {
            Edge.refused("no such sheet, and one missing", Edge::rich, Check.BEYOND, x -> x.copy(3, 0, s, 0, 1));
            Edge.refused("no such sheet, and one missing", Edge::rich, Check.BEYOND, x -> x.copy(s, 0, 3, 0, -1));
        }
        Edge.refused("missing, n below 0", Edge::rich, Check.MISSING, x -> x.copy(0, 0, 3, 0, -1));
        Edge.refused("missing, from below 0", Edge::rich, Check.MISSING, x -> x.copy(3, -1, 1, 0, 1));
        Edge.refused("missing, not so many", Edge::rich, Check.MISSING, x -> x.copy(3, 0, 2, 0, 41));
        Edge.refused("other bits, n below 0", Edge::rich, Check.KIND, x -> x.copy(0, 0, 1, 0, -1));
        Edge.refused("other bits, not so many", Edge::rich, Check.KIND, x -> x.copy(0, 0, 1, 0, 41));
        Edge.refused("other bits, to below 0", Edge::rich, Check.KIND, x -> x.copy(1, 0, 0, -1, 1));
    }

    private static void write(WallDown x, int s, long... numbers) {
        for (int i = 0; i < numbers.length; i++) {
            x.write(s, i, numbers[i]);
        }
    }

    /** Promise 37: a sheet of no numbers. */
    private static void laysOfNoNumbers() {
        Edge.asked("lays(2)", Edge::rich, 0, x -> x.lays(2));
    }

    /** Promise 37: 28 PULLS, and a sheet of 40 numbers. */
    private static void laysOfAllNumbers() {
        for (int bits : WIDTHS) {
            WallDown x = Edge.full();
            x.sheet(0, bits, 40);
            for (int i = 0; i < 40; i++) {
                x.write(0, i, i % 4);
            }
            Check.due("28 of 40", x.lays(0), 28);
            Check.due("stand", x.now(5), 0);
            Check.due("purse", x.now(2), 280);
            Check.due("no more", x.lays(0), 0);
            WallDown y = Edge.full();
            y.sheet(3, bits, 28);
            for (int i = 0; i < 28; i++) {
                y.write(3, i, i / 7);
            }
            Check.due("28 of 28", y.lays(3), 28);
            Check.due("no finding", y.status(-1), 0);
        }
    }

    /** Promise 37: up to the first that is none: the last WALL, the first that isn't one. */
    private static void laysUpToOneThatIsNone() {
        long[] none = {4, -1, Long.MIN_VALUE, Long.MAX_VALUE, 1L << 32, (1L << 32) + 1, -4, Integer.MIN_VALUE};
        for (long wall : none) {
            WallDown x = Edge.full();
            x.sheet(0, 64, 4);
            write(x, 0, 3, 0, wall, 1);
            Check.due("up to " + wall, x.lays(0), 2);
            Check.due("stand", x.now(5), 4095 - 512 - 1);
            Check.due("no finding", x.status(-1), 0);
        }
        Supplier<WallDown> made = () -> {
            WallDown x = Edge.rich();
            x.write(0, 0, 4);
            return x;
        };
        Edge.asked("the first is none", made, 0, x -> x.lays(0));
    }

    /** Promise 37: up to the first that can't be done; no finding. */
    private static void laysUpToOneThatCanNotBeDone() {
        Supplier<WallDown> made = () -> {
            WallDown x = Edge.rich();
            x.write(0, 0, 3);
            x.write(0, 1, 0);
            return x;
        };
        Edge.asked("the first can't be done", made, 0, x -> x.lays(0));
        WallDown x = Edge.told("stone 0;key 0;stone 1;stone 1;slack 99");
        x.sheet(0, 8, 3);
        write(x, 0, 0, 0, 1);
        Check.due("the second can't", x.lays(0), 1);
        Check.due("stand", x.now(5), 17);
        WallDown y = Edge.told("stone 0;stone 1;stone 1;slack 10");
        y.sheet(0, 8, 3);
        write(y, 0, 1, 1, 1);
        Check.due("the third can't", y.lays(0), 2);
        Check.due("stand", y.now(5), 1);
    }

    /** Promise 37: BEYOND: no such sheet. MISSING. */
    private static void laysFindings() {
        for (int s : NO_SHEETS) {
            Edge.refused("lays(" + s + ")", Edge::rich, Check.BEYOND, x -> x.lays(s));
            Edge.refused("lays(" + s + ") of nothing", WallDown::new, Check.BEYOND, x -> x.lays(s));
        }
        Edge.refused("lays(3)", Edge::rich, Check.MISSING, x -> x.lays(3));
        Edge.refused("lays(0) of nothing", WallDown::new, Check.MISSING, x -> x.lays(0));
    }

    /** Promise 38: a sheet of no numbers. */
    private static void bookOfNoNumbers() {
        Edge.asked("book(2)", Edge::rich, 0, x -> x.book(2));
    }

    /** Promise 38: 0, 1, .. PULLS, as far as these are 28 at most and it has numbers. */
    private static void bookUpTo28() {
        int[] sizes = {1, 2, 27, 28, 29, 30, 40};
        for (int n : sizes) {
            WallDown x = Edge.full();
            x.sheet(1, 16, n);
            for (int i = 0; i < n; i++) {
                x.write(1, i, -5);
            }
            Check.due("a book of " + n, x.book(1), Math.min(n, 29));
            for (int i = 0; i < n; i++) {
                Check.due("number " + i + " of " + n, number(x, 1, i), i <= 28 ? 10 * i : -5);
            }
            Check.due("nothing is pulled", x.now(5), 4095);
        }
    }

    /** Promise 38: no stones. */
    private static void bookOfNoStones() {
        WallDown x = new WallDown();
        x.sheet(0, 64, 40);
        write(x, 0, 7, 7);
        Check.due("book", x.book(0), 29);
        Check.due("for 0", number(x, 0, 0), 0);
        Check.due("for 1", number(x, 0, 1), 0);
    }

    /** Promise 38: the greatest number comes in its lowest bits. */
    private static void bookOfTheDearestHouse() {
        long[] due = {(byte) 56224, (short) 56224, 56224};
        for (int width = 0; width < 3; width++) {
            WallDown x = Edge.full();
            for (int i = 0; i < 28; i++) {
                x.turn(i % 4, i / 4, 4);
                x.set(i % 4, i / 4, 2, 999);
            }
            x.sheet(0, WIDTHS[width], 29);
            Check.due("book", x.book(0), 29);
            Check.due("for 28 in " + WIDTHS[width] + " bits", x.write(0, 28, 0), due[width]);
            Check.due("for 0", x.write(0, 0, 0), 0);
        }
    }

    /** Promise 38: BEYOND: no such sheet. MISSING. */
    private static void bookFindings() {
        for (int s : NO_SHEETS) {
            Edge.refused("book(" + s + ")", Edge::rich, Check.BEYOND, x -> x.book(s));
            Edge.refused("book(" + s + ") of nothing", WallDown::new, Check.BEYOND, x -> x.book(s));
        }
        Edge.refused("book(3)", Edge::rich, Check.MISSING, x -> x.book(3));
        Edge.refused("book(0) of nothing", WallDown::new, Check.MISSING, x -> x.book(0));
    }

    /** Promise 39: no numbers: the ROW of no PULLS. */
    private static void readOfNoNumbers() {
        Edge.asked("read(2)", Edge::rich, 1, x -> x.read(2));
        Edge.asked("of no stones", () -> {
            WallDown x = new WallDown();
            x.sheet(0, 64, 0);
            return x;
        }, 1, x -> x.read(0));
    }

    private static WallDown tens(int n) {
        WallDown x = Edge.full();
        x.sheet(0, 8, n);
        for (int i = 0; i < n; i++) {
            x.write(0, i, 10);
        }
        return x;
    }

    /** Promise 39: 28 numbers. */
    private static void readOf28() {
        Edge.asked("all orders", () -> tens(28), ORDERS_OF_ALL, x -> x.read(0));
        Edge.asked("all but the last", () -> tens(27), ORDERS_OF_ALL, x -> x.read(0));
        Edge.asked("one", () -> tens(1), 4, x -> x.read(0));
        Edge.asked("28, of which the last isn't that", () -> {
            WallDown x = tens(28);
            x.write(0, 27, 11);
            return x;
        }, 0, x -> x.read(0));
    }

    /** Promise 39: ROWS of as many PULLS. */
    private static void readOfMoreThanThereAre() {
        Edge.asked("28 of 27", () -> {
            WallDown x = tens(28);
            x.pull(3);
            return x;
        }, 0, x -> x.read(0));
        Edge.asked("one of none", () -> {
            WallDown x = new WallDown();
            x.sheet(0, 8, 1);
            return x;
        }, 0, x -> x.read(0));
    }

    /** Promise 39: each brings just that: not in the lowest bits alone. */
    private static void readJustThat() {
        long[] coins = {10, 11, 9, -10, 10 + (1L << 32), 10 + (1L << 8), Long.MIN_VALUE, Long.MAX_VALUE};
        for (long coin : coins) {
            Edge.asked("one of " + coin, () -> {
                WallDown x = Edge.told("stone 0;stone 1;stone 3 price 20");
                x.sheet(1, 64, 1);
                x.write(1, 0, coin);
                return x;
            }, coin == 10 ? 2 : 0, x -> x.read(1));
        }
        Edge.asked("999", () -> {
            WallDown x = Edge.told("stone 0 price 999;carved 1 price 999");
            x.sheet(1, 16, 2);
            write(x, 1, 2008, 999);
            return x;
        }, 1, x -> x.read(1));
        Edge.asked("0", () -> {
            WallDown x = Edge.told("false 0 price 999;rotten 1 price 1");
            x.sheet(1, 16, 2);
            return x;
        }, 2, x -> x.read(1));
    }

    /** Promise 39: SIZE: more than 28 numbers. */
    private static void readSize() {
        Edge.refused("29", () -> tens(29), Check.SIZE, x -> x.read(0));
        Edge.refused("40", () -> tens(40), Check.SIZE, x -> x.read(0));
        Edge.refused("29 of no stones", () -> {
            WallDown x = new WallDown();
            x.sheet(3, 64, 29);
            return x;
        }, Check.SIZE, x -> x.read(3));
        Edge.refused("40 with all full", Edge::brimful, Check.SIZE, x -> x.read(1));
    }

    /** Promise 39: findings in their order: BEYOND, MISSING, SIZE. */
    private static void readFindingsInOrder() {
        for (int s : NO_SHEETS) {
            Edge.refused("read(" + s + ")", Edge::rich, Check.BEYOND, x -> x.read(s));
            Edge.refused("read(" + s + ") with all full", Edge::brimful, Check.BEYOND, x -> x.read(s));
        }
        Edge.refused("read(3)", Edge::rich, Check.MISSING, x -> x.read(3));
        Edge.refused("read(0) of nothing", WallDown::new, Check.MISSING, x -> x.read(0));
        Edge.refused("one that had 40", () -> {
            WallDown x = Edge.brimful();
            x.sheet(0, 0, 40);
            return x;
        }, Check.MISSING, x -> x.read(0));
    }
}
