import java.util.Random;

/** Long runs of calls, chosen by seeds, with right and wrong arguments: WallDown answers as the Model does. */
public final class RandomTest {
    private static final int RUNS = 400;
    private static final int CALLS = 160;
    private static final int[] WILD = {-1, -2, 99, 100, 1000, 4096, Integer.MAX_VALUE, Integer.MIN_VALUE, 1 << 16};
    private static final String[] WORDS = {"stone", "key", "rotten", "through", "carved", "false", "beam", "wedge",
        "slack", "pull", "high", "price", "on", "off", ";", "0", "1", "2", "3", "4", "20", "31", "1000", "x", "?"};

    private final Random random;
    private final WallDown x = new WallDown();
    private final Model model = new Model();
    private final int run;
    private final int tallest;
    private final long dearest;
    private int callsOfStep;

    private RandomTest(int run) {
        this.run = run;
        random = new Random(run);
        tallest = run % 20 == 0 ? 7 : 1 + random.nextInt(4);
        dearest = run % 100 == 50 ? 500000 : 25000;
    }

    public static void main(String[] args) {
        int runs = args.length > 0 ? Integer.parseInt(args[0]) : RUNS;
        int from = args.length > 1 ? Integer.parseInt(args[1]) : 0;
        for (int run = from; run < from + runs; run++) {
            new RandomTest(run).go();
        }
        Check.end();
    }

    private void go() {
        start();
        for (int call = 0; call < CALLS; call++) {
            String before = Check.picture(x);
            int findings = model.status(-1);
            callsOfStep = 0;
            int which = random.nextInt(43);
            if (cost(which) <= dearest) {
                step(which);
            }
            if (callsOfStep == 1 && model.status(-1) > findings) {
                Check.that("run " + run + ": a finding changes nothing", Check.picture(x).equals(before));
            }
        }
        for (int which = -1; which < 7; which++) {
            due("status(" + which + ")", x.status(which), model.status(which));
        }
    }

    /** How many stands the Model goes through for a call. */
    private long cost(int which) {
        long stands = 1;
        for (int wall = 0; wall < 4; wall++) {
            stands *= 1 + x.wallOf(wall, 0);
        }
        return switch (which) {
            case 18, 27 -> 4 * stands;
            case 28 -> 6 * stands;
            case 38 -> 29 * stands;
            case 29 -> 61 * stands;
            case 26 -> 81 * stands;
            case 20, 21, 19 -> 100 * stands;
            default -> stands;
        };
    }

    private void due(String call, long got, long want) {
        callsOfStep++;
        Check.due("run " + run + ": " + call, got, want);
    }

    /** A house to begin with. */
    private void start() {
        for (int wall = 0; wall < 4; wall++) {
            for (int i = random.nextInt(tallest + 1); i > 0; i--) {
                addStone(random.nextInt(6), wall, 1 + random.nextInt(random.nextBoolean() ? 30 : 6));
            }
        }
        int slack = random.nextInt(60);
        due("slack", x.slack(slack), model.slack(slack));
        if (random.nextInt(3) > 0) {
            int beam = random.nextInt(3);
            due("beam", x.beam(beam, false), model.beam(beam, false));
        }
    }

    private void addStone(int kind, int wall, int high) {
        due("stone(" + kind + ", " + wall + ", " + high + ")", x.stone(kind, wall, high), model.stone(kind, wall, high));
        if (random.nextInt(3) == 0) {
            int i = random.nextInt(7);
            int price = random.nextInt(4) * 5;
            due("set", x.set(wall, i, 2, price), model.set(wall, i, 2, price));
        }
    }

    /** A number from 0 to below n, or a wrong one now and then. */
    private int some(int n) {
        int dice = random.nextInt(30);
        return dice == 0 ? WILD[random.nextInt(WILD.length)] : dice == 1 ? n : dice == 2 ? -1 : random.nextInt(n);
    }

    private int someStand() {
        if (random.nextInt(12) == 0) {
            return some(4096);
        }
        int stand = 0;
        int dice = random.nextInt(4);
        for (int wall = 3; wall >= 0; wall--) {
            int have = x.wallOf(wall, 0);
            int left = dice == 0 ? 0 : dice == 1 ? Math.max(0, have - random.nextInt(2)) : random.nextInt(have + 1);
            stand = 8 * stand + left;
        }
        return stand;
    }

    private void step(int which) {
        if (which < 12) {
            stepWalls(which);
        } else if (which < 22) {
            stepPulls(which);
        } else if (which < 30) {
            stepCoin(which);
        } else {
            stepRest(which);
        }
    }

    private void stepWalls(int which) {
        int wall = some(4);
        int i = some(tallest + 1);
        int what = some(6);
        switch (which) {
            case 0 -> {
                if (wall < 0 || wall > 3 || x.wallOf(wall, 0) < tallest || tallest == 7) {
                    addStone(what, wall, 1 + some(30));
                }
            }
            case 1 -> due("wallOf", x.wallOf(wall, what), model.wallOf(wall, what));
            case 2 -> due("of(" + wall + ", " + i + ", " + what + ")", x.of(wall, i, what), model.of(wall, i, what));
            case 3 -> {
                int v = 1 + some(30);
                int set = some(3);
                due("set", x.set(wall, i, set, v), model.set(wall, i, set, v));
            }
            case 4 -> due("turn", x.turn(wall, i, what), model.turn(wall, i, what));
            case 5 -> due("as", x.as(wall, i, what), model.as(wall, i, what));
            case 6 -> {
                int v = some(21);
                due("wedge", x.wedge(wall, v), model.wedge(wall, v));
            }
            case 7 -> {
                int v = some(100);
                due("slack", x.slack(v), model.slack(v));
            }
            case 8 -> {
                boolean is = random.nextInt(3) > 0;
                int beam = some(3);
                due("beam", x.beam(beam, is), model.beam(beam, is));
            }
            case 9 -> {
                int n = random.nextInt(8) == 0 ? 1 + some(99) : 1 + random.nextInt(3);
                due("nights", x.nights(n), model.nights(n));
            }
            case 10 -> {
                int asked = some(8);
                due("now(" + asked + ")", x.now(asked), model.now(asked));
            }
            default -> {
                due("now(6)", x.now(6), model.now(6));
                due("now(7)", x.now(7), model.now(7));
            }
        }
    }

    private void stepPulls(int which) {
        int wall = some(4);
        int stand = someStand();
        switch (which) {
            case 12 -> due("pull(" + wall + ")", x.pull(wall), model.pull(wall));
            case 13 -> due("pulls()", x.pulls(), model.pulls());
            case 14 -> due("can(" + stand + ")", x.can(stand), model.can(stand));
            case 15 -> due("stands()", x.stands(), model.stands());
            case 16 -> due("least()", x.least(), model.least());
            case 17 -> due("ways(" + stand + ")", x.ways(stand), model.ways(stand));
            case 18 -> due("first(" + stand + ")", x.first(stand), model.first(stand));
            case 19 -> {
                if (random.nextInt(3) == 0) {
                    due("bring(" + stand + ")", x.bring(stand), model.bring(stand));
                }
            }
            case 20 -> due("slackFor(" + stand + ")", x.slackFor(stand), model.slackFor(stand));
            default -> due("slackAll()", x.slackAll(), model.slackAll());
        }
    }

    private void stepCoin(int which) {
        int wall = some(4);
        int n = random.nextInt(3) == 0 ? some(29) : random.nextInt(6);
        switch (which) {
            case 22 -> due("most(" + n + ")", x.most(n), model.most(n));
            case 23 -> due("where(" + n + ")", x.where(n), model.where(n));
            case 24 -> {
                int i = some(tallest);
                due("out(" + wall + ", " + i + ")", x.out(wall, i), model.out(wall, i));
            }
            case 25 -> due("reach(" + wall + ")", x.reach(wall), model.reach(wall));
            case 26 -> due("help()", x.help(), model.help());
            case 27 -> due("frees()", x.frees(), model.frees());
            case 28 -> due("kind(" + wall + ")", x.kind(wall), model.kind(wall));
            default -> due("till()", x.till(), model.till());
        }
    }

    private void stepRest(int which) {
        int s = some(4);
        int i = some(6);
        switch (which) {
            case 30 -> tellText();
            case 31 -> due("house()", x.house(), model.house());
            case 32 -> due("wipe()", x.wipe(), model.wipe());
            case 33 -> {
                int bytes = random.nextInt();
                int n = 1 + some(4);
                due("feed", x.feed(bytes, n), model.feed(bytes, n));
            }
            case 34 -> {
                int bits = new int[] {8, 16, 64, 16, 8, 0, 32}[random.nextInt(7)];
                int n = random.nextInt(4) == 0 ? some(41) : random.nextInt(5);
                due("sheet", x.sheet(s, bits, n), model.sheet(s, bits, n));
            }
            case 35 -> {
                long v = random.nextInt(4) == 0 ? random.nextLong() : random.nextInt(8) * 5;
                due("write", x.write(s, i, v), model.write(s, i, v));
            }
            case 36 -> {
                int t = some(4);
                int to = some(4);
                int n = some(4);
                due("copy", x.copy(s, i, t, to, n), model.copy(s, i, t, to, n));
            }
            case 37 -> {
                due("write", x.write(s, 0, i), model.write(s, 0, i));
                due("write", x.write(s, 1, i % 3), model.write(s, 1, i % 3));
                due("lays(" + s + ")", x.lays(s), model.lays(s));
            }
            case 38 -> due("book(" + s + ")", x.book(s), model.book(s));
            case 39 -> {
                coinsOfARow(s);
                due("read(" + s + ")", x.read(s), model.read(s));
            }
            case 40 -> due("image()", x.image(), model.image());
            case 41 -> due("undo()", x.undo(), model.undo());
            default -> {
                if (random.nextInt(5) == 0) {
                    due("tear()", x.tear(), model.tear());
                }
                int what = some(4);
                due("count(" + what + ")", x.count(what), model.count(what));
                int asked = some(8) - 1;
                due("status(" + asked + ")", x.status(asked), model.status(asked));
            }
        }
    }

    /** Writes the coins of some pulls that can be done to a sheet, so that there is a row to read. */
    private void coinsOfARow(int s) {
        int n = random.nextInt(6);
        due("sheet", x.sheet(s, 64, n), model.sheet(s, 64, n));
        Model.Site site = model.site.twin();
        for (int i = 0; i < n; i++) {
            site.purse = 0;
            for (int tries = 0; tries < 6 && !site.pull(random.nextInt(4)); tries++) {
                continue;
            }
            due("write", x.write(s, i, site.purse), model.write(s, i, site.purse));
        }
    }

    /** An item, most often a right one. */
    private String item() {
        String kind = WORDS[random.nextInt(6)];
        int wall = random.nextInt(12) == 0 ? some(5) : random.nextInt(4);
        return switch (random.nextInt(6)) {
            case 0, 1 -> random.nextInt(tallest + 1) == 0 ? "pull " + wall : kind + " " + wall
                    + (random.nextBoolean() ? " high " + (1 + some(30)) : "")
                    + (random.nextBoolean() ? "price " + some(1000) : "");
            case 2 -> "beam " + random.nextInt(3) + (random.nextBoolean() ? "on" : " off");
            case 3 -> "wedge " + wall + " " + some(21);
            case 4 -> "slack " + some(100);
            default -> "pull " + wall + (random.nextBoolean() ? " " + random.nextInt(4) : "");
        };
    }

    private void tellText() {
        due("wipe()", x.wipe(), model.wipe());
        StringBuilder text = new StringBuilder(item());
        for (int items = random.nextInt(5); items > 0; items--) {
            text.append(random.nextBoolean() ? ";" : " ; ").append(item());
        }
        if (random.nextInt(3) == 0) {
            text.insert(random.nextInt(text.length() + 1), " " + WORDS[random.nextInt(WORDS.length)] + " ");
        }
        if (random.nextInt(5) == 0) {
            text.deleteCharAt(random.nextInt(text.length()));
        }
        for (int i = 0; i < text.length() && i < 120; i++) {
            due("feed", x.feed(text.charAt(i), 1), model.feed(text.charAt(i), 1));
        }
        due("house() of '" + text + "'", x.house(), model.house());
    }
}
