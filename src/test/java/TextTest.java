/** Promises 31 to 33: the tape, and the text of a house. */
public final class TextTest {
    public static void main(String[] args) {
        feed();
        feedFull();
        wipe();
        stoneItems();
        otherItems();
        pullItems();
        itemsInTheirOrder();
        blanks();
        faults();
        faultsOfState();
        longNumbers();
        faultChangesNothing();
        Check.end();
    }

    /** Promise 31. */
    private static void feed() {
        WallDown x = new WallDown();
        Check.due("the highest of the lowest first", x.feed(0x7f736c61, 3), 3);
        Check.due("four", x.feed(0x636b2030, 4), 7);
        Check.due("slack 0", x.house(), 1);
        Check.due("slack", x.now(1), 0);
        Check.due("a byte above 127", x.feed(0xff, 1), 1);
        Check.due("begins no token", x.house(), -1);
        Check.due("of a number below 0", x.feed(-1, 4), 4);
        int[] wrong = {0, 5, -1, Integer.MAX_VALUE, Integer.MIN_VALUE};
        for (int n : wrong) {
            Check.due("feed(65, " + n + ")", x.feed(65, n), Check.BEYOND);
        }
        Check.due("bytes", x.count(1), 4);
        Check.due("status(0)", x.status(0), wrong.length);
    }

    private static void feedFull() {
        WallDown x = new WallDown();
        for (int i = 1; i <= 29; i++) {
            Check.due("feed", x.feed(0x20202020, 4), 4 * i);
        }
        Check.due("feed", x.feed(0x202020, 3), 119);
        Check.due("two are too many", x.feed(0x2020, 2), Check.FULL);
        Check.due("bytes", x.count(1), 119);
        Check.due("one", x.feed(0x20, 1), 120);
        Check.due("one more", x.feed(0x20, 1), Check.FULL);
        Check.due("BEYOND is asked first", x.feed(0x20, 5), Check.BEYOND);
        Check.due("status(1)", x.status(1), 2);
        Check.due("blanks alone", x.house(), -121);
        Check.due("empty", x.count(1), 0);
    }

    /** Promise 32. */
    private static void wipe() {
        WallDown x = new WallDown();
        Check.feed(x, "slack 7");
        Check.due("wipe", x.wipe(), 7);
        Check.due("wipe again", x.wipe(), 0);
        Check.due("bytes", x.count(1), 0);
        Check.due("slack", x.now(1), 10);
        Check.due("from the start", x.feed('b', 1), 1);
    }

    private static void stoneIs(WallDown x, int wall, int i, int kind, int high, int price) {
        Check.due("kind", x.of(wall, i, 0), kind);
        Check.due("high", x.of(wall, i, 1), high);
        Check.due("price", x.of(wall, i, 2), price);
    }

    /** Promise 33. */
    private static void stoneItems() {
        String[] names = {"stone", "key", "rotten", "through", "carved", "false"};
        for (int kind = 0; kind < 6; kind++) {
            WallDown x = new WallDown();
            Check.due("plain", Check.told(x, names[kind] + " 0"), 1);
            stoneIs(x, 0, 0, kind, 5, 10);
            Check.due("high", Check.told(x, names[kind] + " 1 high 30"), 1);
            stoneIs(x, 1, 0, kind, 30, 10);
            Check.due("price", Check.told(x, names[kind] + " 2 price 0"), 1);
            stoneIs(x, 2, 0, kind, 5, 0);
            Check.due("both", Check.told(x, names[kind] + " 3 high 1 price 999"), 1);
            stoneIs(x, 3, 0, kind, 1, 999);
            Check.due("on top", Check.told(x, names[kind] + " 3 high 2"), 1);
            stoneIs(x, 3, 1, kind, 2, 10);
            stoneIs(x, 3, 0, kind, 1, 999);
            Check.due("stand", x.now(5), 1 + 8 + 64 + 1024);
        }
    }

    private static void otherItems() {
        WallDown x = new WallDown();
        Check.due("beams", Check.told(x, "beam 0 off;beam 1 off;beam 2 off;beam 1 on"), 4);
        Check.due("the set", x.now(3), 2);
        Check.due("wedges", Check.told(x, "wedge 0 20;wedge 3 7;wedge 0 1;wedge 2 0"), 4);
        Check.due("wedge 0", x.wallOf(0, 1), 1);
        Check.due("wedge 3", x.wallOf(3, 1), 7);
        Check.due("slack", Check.told(x, "slack 0"), 1);
        Check.due("slack", x.now(1), 0);
        Check.due("slack", Check.told(x, "slack 99"), 1);
        Check.due("slack", x.now(1), 99);
        Check.due("no findings", x.status(-1), 0);
    }

    private static void pullItems() {
        WallDown x = Check.house("stone 0 price 1;stone 0 price 2;stone 1 price 4;stone 3 price 8");
        Check.due("pull", Check.told(x, "pull 0 1 0"), 1);
        Check.due("stand", x.now(5), 512);
        Check.due("purse", x.now(2), 7);
        Check.due("pull, and again", Check.told(x, "stone 0;pull 3;pull 0"), 3);
        Check.due("stand", x.now(5), 0);
        Check.due("purse", x.now(2), 25);
    }

    private static void itemsInTheirOrder() {
        WallDown x = new WallDown();
        Check.due("slack is too little at first", Check.told(x, "stone 0 high 20;stone 0 high 20;pull 0"), -38);
        Check.due("then not", Check.told(x, "stone 0 high 20;stone 0 high 20;slack 20;pull 0;slack 1"), 5);
        Check.due("stand", x.now(5), 1);
        Check.due("slack", x.now(1), 1);
        Check.due("room by a pull", Check.told(x, "stone 2;stone 2;stone 2;stone 2;stone 2;stone 2;stone 2"), 7);
        Check.due("room", Check.told(x, "beam 0 off;beam 1 off;beam 2 off;pull 2;stone 2"), 5);
        Check.due("no room", Check.told(x, "pull 2;stone 2;stone 2"), -22);
        Check.due("wall 2", x.wallOf(2, 0), 7);
    }

    private static void blanks() {
        WallDown x = new WallDown();
        Check.due("none", Check.told(x, "stone0high7price3;key1;beam2off;wedge3 4;slack9;pull0"), 6);
        Check.due("stand", x.now(5), 8);
        Check.due("slack", x.now(1), 9);
        Check.due("many", Check.told(x, "   stone   0   high   7   ;   pull   0   1   "), 2);
        Check.due("stand", x.now(5), 0);
        Check.due("a number is as long as can be", Check.told(x, "wedge 34"), -7);
        Check.due("a word is as long as can be", Check.told(x, "stonekey 0"), -1);
        Check.due("a number ends a word", Check.told(x, "wedge0 4"), 1);
        Check.due("a word ends a number", Check.told(x, "beam 0on"), 1);
    }

    private static void fault(String text, int place) {
        WallDown x = Check.house("stone 0;stone 1;slack 7");
        String before = Check.picture(x);
        Check.due("house() of '" + text + "'", Check.told(x, text), -1 - place);
        Check.that("'" + text + "' changes nothing", Check.picture(x).equals(before));
        Check.due("'" + text + "' is no finding", x.status(-1), 0);
    }

    private static void faults() {
        fault("", 0);
        fault(" ", 1);
        fault(";", 0);
        fault("stone 0;", 8);
        fault("stone 0; ", 9);
        fault("stone 0;;stone 0", 8);
        fault("stone", 5);
        fault("stone ", 6);
        fault("stone 4", 6);
        fault("stone x", 6);
        fault("stone ;", 6);
        fault("stones 0", 0);
        fault("ston 0", 0);
        fault("atone 0", 0);
        fault("stona 0", 0);
        fault("peam 0 on", 0);
        fault("beam 0 in", 7);
        fault("bull 0", 0);
        fault("stone 0 nigh 5", 8);
        fault("stone 0 prise 5", 8);
        fault("high 0", 0);
        fault("7", 0);
        fault("stone 0 high", 12);
        fault("stone 0 high 0", 13);
        fault("stone 0 high 31", 13);
        fault("stone 0 high 5 high 5", 15);
        fault("stone 0 price", 13);
        fault("stone 0 price 1000", 14);
        fault("stone 0 price 5 high 5", 16);
        fault("stone 0 price price", 14);
        fault("stone 0 1", 8);
        fault("stone 0 stone 0", 8);
        fault("beam", 4);
        fault("beam 3 on", 5);
        fault("beam on", 5);
        fault("beam 0", 6);
        fault("beam 0 of", 7);
        fault("beam 0 onoff", 7);
        fault("beam 0 on off", 10);
        fault("beam 0 1", 7);
        fault("wedge", 5);
        fault("wedge 4 1", 6);
        fault("wedge 0", 7);
        fault("wedge 0 21", 8);
        fault("wedge 0;", 7);
        fault("wedge 0 1 2", 10);
        fault("slack", 5);
        fault("slack 100", 6);
        fault("slack x", 6);
        fault("slack 1 2", 8);
        fault("pull", 4);
        fault("pull;", 4);
        fault("pull x", 5);
        fault("pull 4", 5);
        fault("pull 0 4", 7);
        fault("pull 0 x", 7);
        fault("pull 0 0", 7);
        fault("pull 2", 5);
        fault("Stone 0", 0);
        fault("stOne 0", 0);
        fault("stone 0\tx", 7);
        fault("stone\n0", 5);
        fault("stone 0,stone 0", 7);
        fault("stone -1", 6);
        fault("stone 0 {", 8);
        fault("stone 0 `", 8);
        fault("stone 0/", 7);
        fault("stone 0:", 7);
        fault("stone 0" + (char) 0, 7);
        fault("stone 0" + (char) 255, 7);
        fault("stone 0" + (char) 160, 7);
    }

    private static void faultsOfState() {
        fault("stone 0;stone 0;stone 0;stone 0;stone 0;stone 0;stone 0 high 99", 54);
        fault("stone 0;pull 0 1 0 0", 19);
        fault("slack 4;pull 0", 13);
        fault("slack 4;pull 1", 13);
        fault("wedge 3 20;pull 1", 16);
        fault("stone 1;stone 1;key 0;pull 0 0", 27);
        fault("slack 99;stone 1;stone 1;key 0;pull 0 0", 38);
        fault("pull 0 1;pull 0", 14);
    }

    private static void longNumbers() {
        fault("slack 99999999999999999999999999999999999999", 6);
        fault("slack 4294967296", 6);
        fault("slack 2147483648", 6);
        fault("slack 1000", 6);
        fault("slack 999", 6);
        WallDown x = new WallDown();
        Check.due("noughts ahead", Check.told(x, "slack 00000000000000000000000000007"), 1);
        Check.due("slack", x.now(1), 7);
    }

    private static void faultChangesNothing() {
        WallDown x = Check.house("carved 0 price 50;stone 1;slack 20");
        x.image();
        String before = Check.picture(x);
        Check.due("fault at the end", Check.told(x, "slack 20;beam 1 off;pull 0;wedge 2 9;stone 0 high 9;slack 9 9"), -61);
        Check.that("nothing is changed", Check.picture(x).equals(before));
        Check.due("the tape is empty", x.count(1), 0);
        Check.due("status", x.status(-1), 0);
    }
}
