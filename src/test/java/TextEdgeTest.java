import java.util.function.Supplier;

/** Promises 31 to 33 and THE TEXT: an empty and a full tape, each number's bounds, each FAULT. */
public final class TextEdgeTest {
    private static final String[] NAMES = {"stone", "key", "rotten", "through", "carved", "false"};

    public static void main(String[] args) {
        feedOneToFour();
        feedTheLowestBytes();
        feedBeyond();
        feedUpToTheLastByte();
        feedFull();
        feedBeyondBeforeFull();
        feedFullAddsNoPart();
        wipeOfNothing();
        wipeOfAll();
        houseOfAnEmptyTape();
        houseOfBlanks();
        houseOfAFullTape();
        faultAtTheLastByte();
        faultAtTheEndOfAFullTape();
        asManyItemsAsCanBe();
        asManyPullsAsCanBe();
        wallsOfKinds();
        highOfKinds();
        priceOfKinds();
        beams();
        wedges();
        slacks();
        wallsOfPulls();
        numbersThatWouldWrap();
        numbersUpTo999();
        wordsAsLongAsCanBe();
        bytesThatBeginNoToken();
        theSeventhStone();
        theEighthStone();
        roomByAPull();
        pullsThatCanNotBeDone();
        endsTooEarly();
        otherWords();
        faultChangesNothingTold();
        faultKeepsImageAndSheets();
        faultIsNoFinding();
        houseEmptiesTheTape();
        Check.end();
    }

    private static int house(WallDown x, String text) {
        Edge.feed(x, text);
        return x.house();
    }

    /** A text with a FAULT: nothing changes but that THE TAPE is empty, and no finding is counted. */
    private static void fault(Supplier<WallDown> made, String text, int place) {
        WallDown x = made.get();
        WallDown twin = made.get();
        x.wipe();
        twin.wipe();
        int[] before = Edge.findings(x);
        Edge.feed(x, text);
        Check.due("house() of '" + text + "'", x.house(), -1 - place);
        Check.due("the tape behind '" + text + "'", x.count(1), 0);
        int[] after = Edge.findings(x);
        for (int i = 0; i < before.length; i++) {
            Check.due("'" + text + "' is no finding", after[i], before[i]);
        }
        Check.that("'" + text + "' changes nothing", Edge.last(x).equals(Edge.last(twin)));
    }

    private static void fault(String text, int place) {
        fault(Edge::rich, text, place);
    }

    /** A text that may be, as the one ITEM of a house with stones in all walls. */
    private static WallDown item(String text) {
        WallDown x = Edge.told("stone 0;stone 1;stone 2;stone 3;slack 50");
        Check.due("house() of '" + text + "'", house(x, text), 1);
        Check.due("'" + text + "' is no finding", x.status(-1), 0);
        return x;
    }

    /** Promise 31: n 1 to 4. */
    private static void feedOneToFour() {
        for (int n = 1; n <= 4; n++) {
            WallDown x = new WallDown();
            Check.due("feed(.., " + n + ")", x.feed(0x20202020, n), n);
            Check.due("bytes", x.count(1), n);
            Check.due("again", x.feed(0x20202020, n), 2 * n);
            Check.due("blanks", x.house(), -1 - 2 * n);
        }
    }

    /** Promise 31: the n lowest bytes of a number, the highest of these first, whatever its sign. */
    private static void feedTheLowestBytes() {
        WallDown x = new WallDown();
        x.feed(0xffffff73, 1);
        x.feed(0xffff6c61, 2);
        x.feed(0xff636b20, 3);
        x.feed(0x20203937, 4);
        Check.due("slack 97", x.house(), 1);
        Check.due("slack", x.now(1), 97);
        int[] signs = {Edge.LEAST, Edge.GREATEST, -1};
        for (int bytes : signs) {
            WallDown y = new WallDown();
            Check.due("feed(" + bytes + ", 4)", y.feed(bytes, 4), 4);
            Check.due("its first byte begins no token", y.house(), -1);
        }
        WallDown z = new WallDown();
        Edge.feed(z, "slack 8");
        z.feed(0xffffff80, 1);
        Check.due("byte 128 begins no token", z.house(), -1 - 7);
    }

    /** Promise 31: BEYOND: n. */
    private static void feedBeyond() {
        int[] wrong = {0, 5, -1, 120, Edge.LEAST, Edge.GREATEST};
        for (int n : wrong) {
            Edge.refused("feed(.., " + n + ")", Edge::rich, Check.BEYOND, x -> x.feed(0x3b3b3b3b, n));
            Edge.refused("feed(.., " + n + ") on nothing", WallDown::new, Check.BEYOND, x -> x.feed(0x20202020, n));
        }
    }

    private static WallDown bytes(int many) {
        WallDown x = Edge.rich();
        x.wipe();
        Edge.feed(x, ("slack 42" + " ".repeat(112)).substring(0, many));
        Check.due("bytes", x.count(1), many);
        return x;
    }

    /** Section 1: bytes, at most 120. */
    private static void feedUpToTheLastByte() {
        for (int n = 1; n <= 4; n++) {
            WallDown x = bytes(120 - n);
            Check.due("feed(.., " + n + ") up to 120", x.feed(0x20202020, n), 120);
            Check.due("bytes", x.count(1), 120);
            Check.due("the text", x.house(), 1);
            Check.due("slack", x.now(1), 42);
        }
    }

    /** Promise 31: FULL. */
    private static void feedFull() {
        for (int n = 1; n <= 4; n++) {
            int more = n;
            Edge.refused("feed(.., " + n + ") up to 121", () -> bytes(121 - more), Check.FULL,
                    x -> x.feed(0x3b3b3b3b, more));
            Edge.refused("feed(.., " + n + ") behind 120", () -> bytes(120), Check.FULL, x -> x.feed(0x3b3b3b3b, more));
            Edge.refused("feed(.., " + n + ") with all full", Edge::brimful, Check.FULL, x -> x.feed(0x3b3b3b3b, more));
        }
    }

    /** Promise 31: findings in their order: BEYOND, FULL. */
    private static void feedBeyondBeforeFull() {
        int[] wrong = {0, 5, -1, 121, Edge.LEAST, Edge.GREATEST};
        for (int n : wrong) {
            Edge.refused("feed(.., " + n + ") behind 120", () -> bytes(120), Check.BEYOND, x -> x.feed(0x3b3b3b3b, n));
            Edge.refused("feed(.., " + n + ") behind 119", () -> bytes(119), Check.BEYOND, x -> x.feed(0x3b3b3b3b, n));
        }
    }

    /** Promise 31: what is too long is not added in part; what fits comes behind it then. */
    private static void feedFullAddsNoPart() {
        WallDown x = bytes(118);
        Check.due("three are too many", x.feed(0x3b3b3b, 3), Check.FULL);
        Check.due("bytes", x.count(1), 118);
        Check.due("two fit", x.feed(0x2020, 2), 120);
        Check.due("the text", x.house(), 1);
        Check.due("room again", x.feed(0x20202020, 4), 4);
    }

    /** Promise 32: an empty tape. */
    private static void wipeOfNothing() {
        WallDown x = new WallDown();
        Check.due("wipe()", x.wipe(), 0);
        Check.due("again", x.wipe(), 0);
        Check.due("no finding", x.status(-1), 0);
    }

    /** Promise 32: a full tape; all else stays. */
    private static void wipeOfAll() {
        WallDown x = Edge.brimful();
        Check.due("wipe()", x.wipe(), 120);
        Check.due("bytes", x.count(1), 0);
        Check.due("again", x.wipe(), 0);
        Check.due("slack", x.now(1), 98);
        Check.due("stand", x.now(5), 4095);
        Check.due("nothing is told", x.house(), -1);
        Check.due("from the first byte", x.feed('x', 1), 1);
    }

    /** Promise 33: an empty THE TAPE ends too early. */
    private static void houseOfAnEmptyTape() {
        fault("", 0);
        fault(WallDown::new, "", 0);
        fault(Edge::full, "", 0);
    }

    /** Promise 33: blanks alone end too early. */
    private static void houseOfBlanks() {
        fault(" ", 1);
        fault(" ".repeat(119), 119);
        fault(" ".repeat(120), 120);
    }

    /** Promise 33: a text of 120 bytes. */
    private static void houseOfAFullTape() {
        WallDown x = new WallDown();
        Check.due("blanks behind", house(x, "slack 42" + " ".repeat(112)), 1);
        Check.due("slack", x.now(1), 42);
        Check.due("blanks ahead", house(x, " ".repeat(112) + "slack 43"), 1);
        Check.due("slack", x.now(1), 43);
        Check.due("blanks between", house(x, "slack" + " ".repeat(113) + "44"), 1);
        Check.due("slack", x.now(1), 44);
        Check.due("items", house(x, "wedge 3 7;".repeat(11) + "wedge 3  8"), 12);
        Check.due("wedge", x.wallOf(3, 1), 8);
        Check.due("noughts", house(x, "slack " + "0".repeat(113) + "9"), 1);
        Check.due("slack", x.now(1), 9);
    }

    /** Promise 33: a FAULT at the last byte that may be. */
    private static void faultAtTheLastByte() {
        fault("slack 42" + " ".repeat(111) + "x", 119);
        fault("slack 42" + " ".repeat(111) + "?", 119);
        fault("slack 42;" + " ".repeat(110) + ";", 119);
        fault("pull" + " ".repeat(115) + "4", 119);
        fault("slack 4" + "2".repeat(113), 6);
        fault("x".repeat(120), 0);
        fault("?".repeat(120), 0);
        fault("9".repeat(120), 0);
    }

    /** Promise 33: how many bytes there are if it ends too early, 120 of them. */
    private static void faultAtTheEndOfAFullTape() {
        fault("slack 42" + " ".repeat(111) + ";", 120);
        fault(" ".repeat(115) + "slack", 120);
        fault("slack 42;" + " ".repeat(111), 120);
        fault("wedge 0" + " ".repeat(113), 120);
    }

    /** Promise 33: how many ITEMS: the shortest ones on 120 bytes. */
    private static void asManyItemsAsCanBe() {
        StringBuilder text = new StringBuilder("key0");
        for (int i = 1; i < 24; i++) {
            text.append(";key").append(i % 4);
        }
        WallDown x = new WallDown();
        Check.due("24 items", house(x, text.toString()), 24);
        Check.due("24 stones", x.now(4), 24);
        Check.due("one item", house(x, "key0"), 1);
        Check.due("25 stones", x.now(4), 25);
    }

    /** Promise 33: pull, one or more NUMBERS. */
    private static void asManyPullsAsCanBe() {
        WallDown x = Edge.full();
        Check.due("28 pulls", house(x, "pull" + " 0 1 2 3".repeat(7)), 1);
        Check.due("stand", x.now(5), 0);
        Check.due("purse", x.now(2), 280);
        fault(Edge::full, "pull" + " 0 1 2 3".repeat(7) + " 3", 61);
        fault(Edge::full, "pull" + " 0 1 2 3".repeat(7) + ";pull 0", 66);
        WallDown y = Edge.full();
        Check.due("one", house(y, "pull 3"), 1);
        Check.due("stand", y.now(5), 4095 - 512);
        fault("pull", 4);
    }

    /** Section 1: the name of a KIND, a NUMBER (a WALL, 0 to 3). */
    private static void wallsOfKinds() {
        for (int kind = 0; kind < 6; kind++) {
            for (int wall = 0; wall <= 3; wall += 3) {
                WallDown x = item(NAMES[kind] + " " + wall);
                Check.due("stones", x.wallOf(wall, 0), 2);
                Check.due("kind", x.of(wall, 1, 0), kind);
                Check.due("high without", x.of(wall, 1, 1), 5);
                Check.due("price without", x.of(wall, 1, 2), 10);
            }
            int at = NAMES[kind].length() + 1;
            fault(NAMES[kind] + " 4", at);
            fault(NAMES[kind] + " 999", at);
            fault(NAMES[kind] + " 1000", at);
            fault(NAMES[kind] + " -1", at);
        }
    }

    /** Section 1: high and a NUMBER (1 to 30). */
    private static void highOfKinds() {
        for (String name : NAMES) {
            Check.due("the least", item(name + " 2 high 1").of(2, 1, 1), 1);
            Check.due("the greatest", item(name + " 2 high 30").of(2, 1, 1), 30);
            Check.due("the greatest, with a price", item(name + " 2 high 30 price 3").of(2, 1, 1), 30);
            int at = name.length() + 8;
            fault(name + " 2 high 0", at);
            fault(name + " 2 high 31", at);
            fault(name + " 2 high 31 price 3", at);
            fault(name + " 2 high 1000", at);
        }
    }

    /** Section 1: price and a NUMBER (0 to 999). */
    private static void priceOfKinds() {
        for (String name : NAMES) {
            Check.due("the least", item(name + " 2 price 0").of(2, 1, 2), 0);
            Check.due("the greatest", item(name + " 2 price 999").of(2, 1, 2), 999);
            Check.due("the greatest, with high", item(name + " 2 high 1 price 999").of(2, 1, 2), 999);
            int at = name.length() + 9;
            fault(name + " 2 price 1000", at);
            fault(name + " 2 high 1 price 1000", at + 7);
            fault(name + " 2 price -1", at);
        }
    }

    /** Section 1: beam, a NUMBER (0 to 2), on or off. */
    private static void beams() {
        Check.due("the first", item("beam 0 off").now(3), 6);
        Check.due("the last", item("beam 2 off").now(3), 3);
        Check.due("it lies", item("beam 2 on").now(3), 7);
        fault("beam 3 on", 5);
        fault("beam 3 off", 5);
        fault("beam 32 off", 5);
        fault("beam 999 off", 5);
        fault("beam -1 off", 5);
    }

    /** Section 1: wedge, a NUMBER (a WALL), a NUMBER (0 to 20). */
    private static void wedges() {
        Check.due("the first", item("wedge 0 20").wallOf(0, 1), 20);
        Check.due("the last", item("wedge 3 20").wallOf(3, 1), 20);
        WallDown x = item("wedge 3 20");
        Check.due("none", house(x, "wedge 3 0"), 1);
        Check.due("none", x.wallOf(3, 1), 0);
        fault("wedge 4 5", 6);
        fault("wedge 4 21", 6);
        fault("wedge 0 21", 8);
        fault("wedge 3 21", 8);
        fault("wedge 3 -1", 8);
    }

    /** Section 1: slack and a NUMBER (0 to 99). */
    private static void slacks() {
        Check.due("the least", item("slack 0").now(1), 0);
        Check.due("the greatest", item("slack 99").now(1), 99);
        fault("slack 100", 6);
        fault("slack 999", 6);
        fault("slack -1", 6);
    }

    /** Section 1: pull, NUMBERS (WALLS). */
    private static void wallsOfPulls() {
        Check.due("the first", item("pull 0").now(5), 8 + 64 + 512);
        Check.due("the last", item("pull 3").now(5), 1 + 8 + 64);
        fault("pull 4", 5);
        fault("pull 2 4", 7);
        fault("pull 999", 5);
    }

    /** Numbers that are 0 or 1 in an int's or a long's bits. */
    private static void numbersThatWouldWrap() {
        String[] wrap = {"4294967296", "4294967297", "18446744073709551616", "18446744073709551617", "65536", "256",
            "2147483648", "9223372036854775808", "10000000000000000000000000000000"};
        for (String number : wrap) {
            fault("stone " + number, 6);
            fault("stone 0 high " + number, 13);
            fault("beam " + number + " on", 5);
            fault("wedge " + number + " 1", 6);
            fault("wedge 0 " + number, 8);
            fault("slack " + number, 6);
            fault("pull " + number, 5);
            if (number.length() > 3) {
                fault("stone 0 price " + number, 14);
            }
        }
    }

    /** Section 1: NUMBERS (digits, 999 at most). */
    private static void numbersUpTo999() {
        Check.due("999", item("stone 0 price 999").of(0, 1, 2), 999);
        fault("stone 0 price 1000", 14);
        fault("stone 0 price 9990", 14);
        fault("1000", 0);
        fault("999", 0);
    }

    /** Section 1: TOKENS, each as long as can be. */
    private static void wordsAsLongAsCanBe() {
        fault("stones 0", 0);
        fault("ston 0", 0);
        fault("stonestone 0", 0);
        fault("beam 0 onn", 7);
        fault("beam 0 o", 7);
        fault("beam 0 offf", 7);
        fault("stone 0 highh 5", 8);
        fault("stone 0 hig 5", 8);
        fault("stone 0 pricehigh 5", 8);
        fault("pullpull 0", 0);
        fault("pull 20", 5);
        fault("pull 01 23", 8);
        Check.due("one number of two digits", item("stone 0 high 12").of(0, 1, 1), 12);
        Check.due("two of one digit", item("wedge 1 2").wallOf(1, 1), 2);
    }

    /** Section 1: a byte that begins no TOKEN; only letters a to z, digits and ; do, and a blank may stand. */
    private static void bytesThatBeginNoToken() {
        for (int value = 0; value < 256; value++) {
            String text = "slack 4" + (char) value;
            if (value == ' ') {
                Check.due("a blank", item(text).now(1), 4);
            } else if (value >= '0' && value <= '9') {
                Check.due("a digit", item(text).now(1), 40 + value - '0');
            } else {
                fault(() -> Edge.told("stone 0;slack 9"), text, value == ';' ? 8 : 7);
            }
            if (value != ' ') {
                fault(() -> Edge.told("stone 0;slack 9"), (char) value + "slack 4", 0);
            }
        }
    }

    /** Section 1: at most 7 STONES: the seventh may come. */
    private static void theSeventhStone() {
        for (int wall = 0; wall < 4; wall++) {
            WallDown x = new WallDown();
            String text = "stone " + wall + ";";
            Check.due("seven", house(x, text.repeat(6) + "carved " + wall + " high 30 price 999"), 7);
            Check.due("stones", x.wallOf(wall, 0), 7);
            Check.due("the seventh", x.of(wall, 6, 0), 4);
            Check.due("its price", x.of(wall, 6, 2), 999);
        }
    }

    /** Section 1: FAULT: the NUMBER of a WALL of 7 STONES behind a KIND. */
    private static void theEighthStone() {
        for (int wall = 0; wall < 4; wall++) {
            for (String name : NAMES) {
                fault(Edge::full, name + " " + wall, name.length() + 1);
                fault(Edge::full, name + " " + wall + " high 99", name.length() + 1);
            }
            String seven = ("stone " + wall + ";").repeat(7);
            fault(WallDown::new, seven + "stone " + wall, 62);
            fault(Edge::full, "slack 5;wedge " + wall + " 3;stone " + wall, 24);
        }
    }

    /** A PULL makes room for one, and for one alone. */
    private static void roomByAPull() {
        WallDown x = Edge.full();
        Check.due("room", house(x, "pull 1;stone 1 high 3"), 2);
        Check.due("stand", x.now(5), 4095);
        Check.due("on top", x.of(1, 6, 1), 3);
        fault(Edge::full, "pull 1;stone 1;stone 1", 21);
        fault(Edge::full, "pull 1;stone 2", 13);
    }

    /** Section 1: WALLS out of which a PULL can be done, one behind the other. */
    private static void pullsThatCanNotBeDone() {
        fault("pull 3", 5);
        fault(WallDown::new, "pull 0", 5);
        fault(() -> Edge.told("stone 0"), "pull 0 0", 7);
        fault(() -> Edge.told("key 0;stone 1;stone 1;slack 99"), "pull 0", 5);
        fault(() -> Edge.told("through 0;stone 1;stone 1;slack 99"), "pull 1 0 0", 9);
        fault(() -> Edge.told("stone 0;stone 1;slack 4"), "pull 1", 5);
        Check.due("just safe", house(Edge.told("stone 0;stone 1;slack 5"), "pull 1"), 1);
        Check.due("a key that waits", house(Edge.told("key 0;stone 1;stone 1;slack 99"), "pull 1 0 1"), 1);
    }

    /** Section 1: how many bytes there are if it ends too early: behind each TOKEN that isn't the last. */
    private static void endsTooEarly() {
        String[] early = {"stone", "key ", "rotten", "through", "carved", "false", "stone 0 high", "stone 0 price",
            "stone 0 high 5 price", "beam", "beam 0", "wedge", "wedge 0", "slack", "pull", "slack 5;", "slack 5; ",
            "stone 0;beam 1  "};
        for (String text : early) {
            fault(text, text.length());
        }
    }

    /** Section 1: another WORD, or another TOKEN, where one can't stand. */
    private static void otherWords() {
        fault("x", 0);
        fault("high 5", 0);
        fault("on", 0);
        fault("0", 0);
        fault(";", 0);
        fault("stone high 5", 6);
        fault("stone 0 on", 8);
        fault("stone 0 price 5 high 5", 16);
        fault("stone 0 high high 5", 13);
        fault("stone 0 high ;", 13);
        fault("beam off", 5);
        fault("beam 0 stone", 7);
        fault("beam 0 ;", 7);
        fault("beam 0 on on", 10);
        fault("wedge x", 6);
        fault("wedge 0 x", 8);
        fault("wedge 0 5 5", 10);
        fault("slack ;", 6);
        fault("slack 5 5", 8);
        fault("slack 5 slack 5", 8);
        fault("slack 5;;slack 5", 8);
        fault("pull ;", 5);
        fault("pull x", 5);
        fault("slack 5;x", 8);
    }

    /** Promise 33: nothing changes: not by the ITEMS ahead of the FAULT either. */
    private static void faultChangesNothingTold() {
        fault("slack 99;pull 0 1;stone 3 high 7;beam 0 off;wedge 1 19;stone 0;x", 63);
        fault(Edge::full, "pull 0 1 2 3;stone 0 high 3;slack 1;beam 2 off;wedge 3 4;", 57);
        fault(Edge::brimful, "pull 0 1 2 3 0 1 2 3 0 1 2 3;stone 0;stone 1;?", 45);
        fault(WallDown::new, "stone 0;stone 1;stone 2;stone 3;slack 1;pull 1", 45);
    }

    /** Promise 33: an image stays, and so do the sheets. */
    private static void faultKeepsImageAndSheets() {
        WallDown x = Edge.rich();
        x.wipe();
        Check.due("fault", house(x, "slack 1;pull 9"), -1 - 13);
        Check.due("the image", x.tear(), 1);
        Check.due("a sheet", x.write(1, 1, 0), 300);
        Check.due("purse", x.now(2), 90);
    }

    /** Promise 33: no finding. */
    private static void faultIsNoFinding() {
        WallDown x = new WallDown();
        Check.due("fault", house(x, "stone 4"), -1 - 6);
        Check.due("fault", house(x, "pull 0"), -1 - 5);
        Check.due("fault", house(x, ""), -1);
        for (int which = -1; which < 7; which++) {
            Check.due("status(" + which + ")", x.status(which), 0);
        }
    }

    /** Promise 33: and empty then, with a FAULT and without. */
    private static void houseEmptiesTheTape() {
        WallDown x = new WallDown();
        Check.due("no fault", house(x, "slack 7"), 1);
        Check.due("empty", x.count(1), 0);
        Check.due("nothing to tell", x.house(), -1);
        Check.due("fault", house(x, "slack 7 x"), -1 - 8);
        Check.due("empty", x.wipe(), 0);
        Check.due("from the first byte", x.feed('s', 1), 1);
    }
}
