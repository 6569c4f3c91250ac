import java.util.function.Supplier;

/** Objects for the tests of edges, and what a call may leave changed behind it. */
final class Edge {
    /** Numbers so small and so great that a sum with them would wrap around. */
    static final int LEAST = Integer.MIN_VALUE;
    static final int GREATEST = Integer.MAX_VALUE;

    interface Call {
        long on(WallDown x);
    }

    private Edge() {
    }

    /** A call that is refused: it answers the finding, which is counted once, and changes nothing else. */
    static void refused(String name, Supplier<WallDown> made, int finding, Call call) {
        untouched(name, made, finding, call, Check.BEYOND - finding);
    }

    /** A call that only asks: it changes nothing at all. */
    static void asked(String name, Supplier<WallDown> made, long answer, Call call) {
        untouched(name, made, answer, call, -1);
    }

    private static void untouched(String name, Supplier<WallDown> made, long answer, Call call, int counted) {
        WallDown x = made.get();
        WallDown twin = made.get();
        int[] before = findings(x);
        Check.due(name, call.on(x), answer);
        int[] after = findings(x);
        for (int i = 0; i < before.length; i++) {
            int more = counted >= 0 && (i == 0 || i == counted + 1) ? 1 : 0;
            Check.due(name + ", then status(" + (i - 1) + ")", after[i], before[i] + more);
        }
        String is = last(x);
        String was = last(twin);
        Check.that(name + " changes nothing:\n" + is + "\n" + was, is.equals(was));
    }

    /** Told by status(): all, then BEYOND to SIZE. */
    static int[] findings(WallDown x) {
        int[] all = new int[8];
        for (int which = -1; which < 7; which++) {
            all[which + 1] = x.status(which);
        }
        return all;
    }

    /** All that an object holds, the tape and the image too; the object is of no use behind it. */
    static String last(WallDown x) {
        StringBuilder all = new StringBuilder(stones(x));
        for (int s = 0; s < 4; s++) {
            all.append("\nsheet ").append(s).append(':');
            long was = 0;
            for (int i = 0; i < 41 && was > Check.BEYOND; i++) {
                // Nothing written to a sheet of these tests is as small as a finding.
                was = x.write(s, i, 0x0101);
                all.append(' ').append(was);
            }
            // How many bits a number has is seen when it is read again.
            all.append(" / ").append(x.write(s, 0, 0));
        }
        all.append("\ntape: ").append(x.count(1)).append(", ").append(x.house()).append(": ").append(stones(x));
        return all.append("\nimage: ").append(x.undo()).append(": ").append(stones(x)).toString();
    }

    /** Walls, stones, beams, slack, night and purse. */
    static String stones(WallDown x) {
        StringBuilder all = new StringBuilder();
        for (int what = 0; what < 4; what++) {
            all.append(x.now(what)).append(' ');
        }
        for (int wall = 0; wall < 4; wall++) {
            int stones = x.wallOf(wall, 0);
            all.append("| wedge ").append(x.wallOf(wall, 1));
            for (int i = 0; i < stones; i++) {
                all.append(", ");
                for (int what = 0; what < 3; what++) {
                    all.append(x.of(wall, i, what)).append(' ');
                }
            }
        }
        return all.toString();
    }

    /** Puts a text on the tape by as few calls as can be. */
    static void feed(WallDown x, String text) {
        for (int at = 0; at < text.length(); at += 4) {
            int bytes = 0;
            int n = Math.min(4, text.length() - at);
            for (int i = 0; i < n; i++) {
                bytes = bytes << 8 | text.charAt(at + i);
            }
            x.feed(bytes, n);
        }
    }

    static WallDown told(String... texts) {
        WallDown x = new WallDown();
        for (String text : texts) {
            feed(x, text);
            int items = x.house();
            Check.that("no fault in " + text + ", not " + items, items > 0);
        }
        return x;
    }

    /** Something of all: stones of each kind, a night, coin, sheets of each width, a text, an image. */
    static WallDown rich() {
        WallDown x = told("carved 0 high 9 price 40;stone 0;rotten 1 high 12 price 7;through 1;key 1 high 3",
                "stone 2 high 20 price 0;false 2 high 30 price 999;wedge 2 3;slack 25;beam 1 off");
        x.nights(2);
        x.image();
        x.stone(0, 0, 6);
        x.wedge(3, 20);
        x.pull(0);
        x.nights(1);
        x.sheet(0, 64, 3);
        x.write(0, 0, 1);
        x.write(0, 1, 1L << 40);
        x.write(0, 2, -7);
        x.sheet(1, 16, 2);
        x.write(1, 1, 300);
        x.sheet(2, 8, 0);
        feed(x, "slack 77;stone 3 high 8;wedge 0 1");
        x.pull(3);
        x.pull(4);
        return x;
    }

    /** Seven stones in each wall; each may go, in any order. */
    static WallDown full() {
        WallDown x = new WallDown();
        for (int wall = 0; wall < 4; wall++) {
            for (int i = 0; i < 7; i++) {
                x.stone(0, wall, 14);
            }
        }
        x.slack(98);
        return x;
    }

    /** The same with an image kept, a tape of 120 bytes, and sheets of 40 numbers, in the night 999. */
    static WallDown brimful() {
        WallDown x = full();
        for (int i = 0; i < 10; i++) {
            x.nights(99);
        }
        x.nights(9);
        x.image();
        x.sheet(0, 64, 40);
        x.sheet(1, 8, 40);
        x.write(0, 39, 5);
        x.write(1, 39, 6);
        feed(x, "slack 0;".repeat(14) + "slack 33");
        return x;
    }

    static WallDown late() {
        WallDown x = told("rotten 0 high 30;false 3 high 30");
        for (int i = 0; i < 10; i++) {
            x.nights(99);
        }
        x.nights(9);
        return x;
    }
}
