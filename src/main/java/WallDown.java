import java.util.Arrays;

/**
 * Houses taken down from below: walls of stones, of which only the lowest may be pulled, under
 * beams that must sink evenly. The document of the class numbers its promises 1 to 44; the words
 * in capitals in the comments here are the document's.
 */
public final class WallDown {

    private static final int BEYOND = -1000000001;
    private static final int FULL = -1000000002;
    private static final int KIND = -1000000003;
    private static final int NONE = -1000000004;
    private static final int STATE = -1000000005;
    private static final int MISSING = -1000000006;
    private static final int SIZE = -1000000007;
    private static final int FINDINGS = 7;

    private static final int STONE = 0;
    private static final int KEY = 1;
    private static final int ROTTEN = 2;
    private static final int THROUGH = 3;
    private static final int CARVED = 4;
    private static final int FALSE = 5;
    private static final int KINDS = 6;

    /** The KIND above each KIND; STONE has none. */
    private static final int[] ABOVE = {-1, STONE, STONE, STONE, KEY, ROTTEN};

    private static final int WALLS = 4;
    private static final int BEAMS = 3;
    private static final int ROW = 7;
    private static final int ALL_STONES = WALLS * ROW;

    private static final int HIGH_MOST = 30;
    private static final int HIGH_TOLD = 5;
    private static final int PRICE_MOST = 999;
    private static final int PRICE_FIRST = 10;
    private static final int WEDGE_MOST = 20;
    private static final int SLACK_MOST = 99;
    private static final int SLACK_FIRST = 10;
    private static final int NIGHT_MOST = 999;
    private static final int NIGHTS_AT_ONCE = 99;
    private static final int NIGHTS_AHEAD = 60;
    private static final int PURSE_MOST = 999999;

    private static final int TAPE_MOST = 120;
    private static final int NUMBER_MOST = 999;

    private static final int SHEETS = 4;
    private static final int SHEET_MOST = 40;

    private final House house = new House();
    private final House kept = new House();
    private final House trial = new House();
    private final Survey survey = new Survey();
    private final Rows rows = new Rows();
    private final Teller teller = new Teller();
    private final Sheet[] sheets = new Sheet[SHEETS];
    private final int[] found = new int[FINDINGS];
    private boolean keeps;

    public WallDown() {
        for (int s = 0; s < SHEETS; s++) {
            sheets[s] = new Sheet();
        }
    }

    // ---- walls, stones

    public int stone(int kind, int wall, int high) {
        if (!isKind(kind) || !isWall(wall) || !isHigh(high)) {
            return finding(BEYOND);
        }
        if (house.counts[wall] >= ROW) {
            return finding(FULL);
        }
        house.put(kind, wall, high, PRICE_FIRST);
        return house.counts[wall] - 1;
    }

    public int wallOf(int wall, int what) {
        if (!isWall(wall)) {
            return finding(BEYOND);
        }
        switch (what) {
            case 0:
                return house.counts[wall];
            case 1:
                return house.wedges[wall];
            case 2:
                return house.topOf(wall);
            case 3:
                return house.coinsOf(wall);
            default:
                return finding(BEYOND);
        }
    }

    public int of(int wall, int i, int what) {
        if (!isStone(wall, i)) {
            return finding(BEYOND);
        }
        int place = House.place(wall, i);
        switch (what) {
            case 0:
                return house.kinds[place];
            case 1:
                return house.highs[place];
            case 2:
                return house.prices[place];
            case 3:
                return house.tallOf(wall, i);
            case 4:
                return house.coinOf(wall, i);
            case 5:
                return asNumber(mayGoAsLowest(wall, house.kinds[place]));
            default:
                return finding(BEYOND);
        }
    }

    public int set(int wall, int i, int what, int v) {
        if (!isStone(wall, i)) {
            return finding(BEYOND);
        }
        int place = House.place(wall, i);
        if (what == 1 && isHigh(v)) {
            int was = house.highs[place];
            house.highs[place] = v;
            return was;
        }
        if (what == 2 && isWithin(v, 0, PRICE_MOST)) {
            int was = house.prices[place];
            house.prices[place] = v;
            return was;
        }
        return finding(BEYOND);
    }

    public int turn(int wall, int i, int kind) {
        if (!isStone(wall, i) || !isKind(kind)) {
            return finding(BEYOND);
        }
        int place = House.place(wall, i);
        int was = house.kinds[place];
        house.kinds[place] = kind;
        return was;
    }

    public int as(int wall, int i, int kind) {
        if (!isStone(wall, i) || !isKind(kind)) {
            return finding(BEYOND);
        }
        int place = House.place(wall, i);
        if (!isUnder(house.kinds[place], kind)) {
            return finding(KIND);
        }
        return house.highs[place];
    }

    public int wedge(int wall, int v) {
        if (!isWall(wall) || !isWithin(v, 0, WEDGE_MOST)) {
            return finding(BEYOND);
        }
        int was = house.wedges[wall];
        house.wedges[wall] = v;
        return was;
    }

    public int slack(int v) {
        if (!isWithin(v, 0, SLACK_MOST)) {
            return finding(BEYOND);
        }
        int was = house.slack;
        house.slack = v;
        return was;
    }

    public int beam(int beam, boolean is) {
        if (!isWithin(beam, 0, BEAMS - 1)) {
            return finding(BEYOND);
        }
        int before = house.beams;
        house.layBeam(beam, is);
        return asNumber(house.beams != before);
    }

    public int nights(int n) {
        if (!isWithin(n, 1, NIGHTS_AT_ONCE)) {
            return finding(BEYOND);
        }
        if (house.night + n > NIGHT_MOST) {
            return finding(STATE);
        }
        int before = house.allTops();
        house.night += n;
        return before - house.allTops();
    }

    public int now(int what) {
        switch (what) {
            case 0:
                return house.night;
            case 1:
                return house.slack;
            case 2:
                return house.purse;
            case 3:
                return house.beams;
            case 4:
                return house.allStones();
            case 5:
                return house.standNow();
            case 6:
                survey.measure(house);
                return survey.unlikeAt(survey.now);
            case 7:
                survey.measure(house);
                return asNumber(survey.unlikeAt(survey.now) <= house.slack);
            default:
                return finding(BEYOND);
        }
    }

    // ---- pulls

    public int pull(int wall) {
        if (!isWall(wall)) {
            return finding(BEYOND);
        }
        survey.measure(house);
        if (!survey.canPullAt(survey.now, wall)) {
            return finding(STATE);
        }
        int tall = house.tallOf(wall, 0);
        house.takeLowest(wall);
        return tall;
    }

    public int pulls() {
        survey.measure(house);
        int set = 0;
        for (int wall = 0; wall < WALLS; wall++) {
            if (survey.canPullAt(survey.now, wall)) {
                set |= 1 << wall;
            }
        }
        return set;
    }

    public int can(int stand) {
        if (!isStand(stand)) {
            return finding(BEYOND);
        }
        return asNumber(canBe(house, stand));
    }

    public int stands() {
        return standsOf(house);
    }

    public int least() {
        standsOf(house);
        return rows.leastStand(survey);
    }

    public long ways(int stand) {
        if (!isStand(stand)) {
            return finding(BEYOND);
        }
        standsOf(house);
        return rows.ways[stand];
    }

    public int first(int stand) {
        if (!isStand(stand)) {
            return finding(BEYOND);
        }
        survey.measure(house);
        rows.lead(survey, stand);
        int wall = stand == survey.now ? -1 : rows.leadFrom(survey, survey.now);
        return wall < 0 ? finding(NONE) : wall;
    }

    public int bring(int stand) {
        if (!isStand(stand)) {
            return finding(BEYOND);
        }
        survey.measure(house);
        rows.lead(survey, stand);
        if (rows.ways[survey.now] == 0) {
            return finding(STATE);
        }
        int pulled = 0;
        for (int at = survey.now; at != stand && pulled < ALL_STONES; pulled++) {
            int wall = rows.leadFrom(survey, at);
            if (wall < 0) {
                return pulled;
            }
            house.takeLowest(wall);
            at -= Survey.unit(wall);
        }
        return pulled;
    }

    public int slackFor(int stand) {
        if (!isStand(stand)) {
            return finding(BEYOND);
        }
        return leastSlack(stand);
    }

    public int slackAll() {
        return leastSlack(0);
    }

    // ---- coin, one stone

    public int most(int n) {
        if (!isWithin(n, 0, ALL_STONES)) {
            return finding(BEYOND);
        }
        return survey.coinAt(bestStand(n));
    }

    public int where(int n) {
        if (!isWithin(n, 0, ALL_STONES)) {
            return finding(BEYOND);
        }
        return bestStand(n);
    }

    public int out(int wall, int i) {
        if (!isStone(wall, i)) {
            return finding(BEYOND);
        }
        standsOf(house);
        int pulled = rows.fewestPulls(survey, wall, house.counts[wall] - 1 - i);
        return pulled < 0 ? finding(NONE) : pulled;
    }

    public int reach(int wall) {
        if (!isWall(wall)) {
            return finding(BEYOND);
        }
        standsOf(house);
        return house.counts[wall] - rows.fewestLeft(survey, wall);
    }

    public int help() {
        int most = standsOf(house);
        int best = -1;
        trial.becomeLike(house);
        for (int wall = 0; wall < WALLS; wall++) {
            for (int v = 1; v <= WEDGE_MOST; v++) {
                trial.wedges[wall] = v;
                int stands = standsOf(trial);
                if (stands > most) {
                    most = stands;
                    best = 100 * wall + v;
                }
            }
            trial.wedges[wall] = house.wedges[wall];
        }
        return best < 0 ? finding(NONE) : best;
    }

    public int frees() {
        int most = standsOf(house);
        int best = -1;
        trial.becomeLike(house);
        for (int beam = 0; beam < BEAMS; beam++) {
            trial.layBeam(beam, false);
            int stands = standsOf(trial);
            if (stands > most) {
                most = stands;
                best = beam;
            }
            trial.beams = house.beams;
        }
        return best < 0 ? finding(NONE) : best;
    }

    public int kind(int wall) {
        if (!isWall(wall)) {
            return finding(BEYOND);
        }
        if (house.counts[wall] == 0) {
            return finding(STATE);
        }
        int most = 0;
        int best = STONE;
        trial.becomeLike(house);
        for (int kind = 0; kind < KINDS; kind++) {
            trial.kinds[House.place(wall, 0)] = kind;
            int stands = standsOf(trial);
            if (stands > most) {
                most = stands;
                best = kind;
            }
        }
        return best;
    }

    public int till() {
        trial.becomeLike(house);
        for (int on = NIGHTS_AHEAD; on >= 0; on--) {
            trial.night = house.night + on;
            if (canBe(trial, 0)) {
                return trial.night;
            }
        }
        return finding(NONE);
    }

    // ---- the text

    public int feed(int bytes, int n) {
        if (!isWithin(n, 1, 4)) {
            return finding(BEYOND);
        }
        if (teller.tape.length + n > TAPE_MOST) {
            return finding(FULL);
        }
        for (int left = n - 1; left >= 0; left--) {
            teller.tape.append(bytes >> (8 * left) & 255);
        }
        return teller.tape.length;
    }

    public int wipe() {
        int had = teller.tape.length;
        teller.tape.length = 0;
        return had;
    }

    public int house() {
        int items = teller.tell(house);
        if (items >= 0) {
            house.becomeLike(teller.site);
        }
        teller.tape.length = 0;
        return items;
    }

    // ---- sheets

    public int sheet(int s, int bits, int n) {
        if (!isSheet(s) || !isWidth(bits)) {
            return finding(BEYOND);
        }
        if (n < 0) {
            return finding(SIZE);
        }
        if (n > SHEET_MOST) {
            return finding(BEYOND);
        }
        sheets[s].layOut(bits, n);
        return sheets[s].size;
    }

    public long write(int s, int i, long v) {
        int wrong = sheetFinding(s);
        if (wrong != 0) {
            return finding(wrong);
        }
        Sheet sheet = sheets[s];
        if (!isWithin(i, 0, sheet.size - 1)) {
            return finding(BEYOND);
        }
        long was = sheet.numbers[i];
        sheet.put(i, v);
        return was;
    }

    public int copy(int s, int from, int t, int to, int n) {
        if (!isSheet(s) || !isSheet(t)) {
            return finding(BEYOND);
        }
        Sheet source = sheets[s];
        Sheet target = sheets[t];
        if (source.bits == 0 || target.bits == 0) {
            return finding(MISSING);
        }
        if (source.bits != target.bits) {
            return finding(KIND);
        }
        if (!source.hasPart(from, n) || !target.hasPart(to, n)) {
            return finding(BEYOND);
        }
        System.arraycopy(source.numbers, from, target.numbers, to, n);
        return n;
    }

    public int lays(int s) {
        int wrong = sheetFinding(s);
        if (wrong != 0) {
            return finding(wrong);
        }
        Sheet sheet = sheets[s];
        for (int i = 0; i < sheet.size; i++) {
            long wall = sheet.numbers[i];
            if (wall < 0 || wall >= WALLS) {
                return i;
            }
            survey.measure(house);
            if (!survey.canPullAt(survey.now, (int) wall)) {
                return i;
            }
            house.takeLowest((int) wall);
        }
        return sheet.size;
    }

    public int book(int s) {
        int wrong = sheetFinding(s);
        if (wrong != 0) {
            return finding(wrong);
        }
        Sheet sheet = sheets[s];
        int written = Math.min(sheet.size, ALL_STONES + 1);
        standsOf(house);
        rows.rank(survey);
        for (int n = 0; n < written; n++) {
            sheet.put(n, survey.coinAt(rows.bestUpTo(survey, n)));
        }
        return written;
    }

    public long read(int s) {
        int wrong = sheetFinding(s);
        if (wrong != 0) {
            return finding(wrong);
        }
        Sheet sheet = sheets[s];
        if (sheet.size > ALL_STONES) {
            return finding(SIZE);
        }
        survey.measure(house);
        rows.fill(survey, sheet);
        return rows.waysBy(survey, sheet.size);
    }

    // ---- images

    public int image() {
        kept.becomeLike(house);
        keeps = true;
        return 1;
    }

    public int undo() {
        if (!keeps) {
            return finding(NONE);
        }
        house.becomeLike(kept);
        return house.allStones();
    }

    public int tear() {
        int was = asNumber(keeps);
        keeps = false;
        return was;
    }

    public int count(int what) {
        switch (what) {
            case 0:
                return house.allStones();
            case 1:
                return teller.tape.length;
            case 2:
                return house.allTops();
            case 3:
                return house.allCoins();
            default:
                return finding(BEYOND);
        }
    }

    public int status(int which) {
        if (!isWithin(which, -1, FINDINGS - 1)) {
            return finding(BEYOND);
        }
        if (which >= 0) {
            return found[which];
        }
        int all = 0;
        for (int i = 0; i < FINDINGS; i++) {
            all += found[i];
        }
        return all;
    }

    // ---- what the calls share

    private int finding(int which) {
        int i = BEYOND - which;
        if (isWithin(i, 0, FINDINGS - 1)) {
            found[i]++;
        }
        return which;
    }

    /** The finding by which a sheet can't be used, or 0. */
    private int sheetFinding(int s) {
        if (!isSheet(s)) {
            return BEYOND;
        }
        return sheets[s].bits == 0 ? MISSING : 0;
    }

    private boolean isStone(int wall, int i) {
        return isWall(wall) && isWithin(i, 0, house.counts[wall] - 1);
    }

    private boolean isStand(int stand) {
        return Survey.isPartOf(stand, house.standNow());
    }

    private boolean mayGoAsLowest(int wall, int kind) {
        trial.becomeLike(house);
        trial.kinds[House.place(wall, 0)] = kind;
        survey.measure(trial);
        return survey.lowestMayGo(survey.now, wall);
    }

    /** Surveys a house and follows all its ROWS: how many STANDS CAN BE. */
    private int standsOf(House which) {
        survey.measure(which);
        return rows.fill(survey, null);
    }

    private boolean canBe(House which, int stand) {
        standsOf(which);
        return rows.ways[stand] > 0;
    }

    private int bestStand(int n) {
        standsOf(house);
        rows.rank(survey);
        return rows.bestUpTo(survey, n);
    }

    /** More SLACK never bars a ROW, so the least one can be found by halving. */
    private int leastSlack(int stand) {
        trial.becomeLike(house);
        int least = 0;
        for (int step = 64; step > 0; step /= 2) {
            trial.slack = least + step - 1;
            if (!canBe(trial, stand)) {
                least += step;
            }
        }
        return least > SLACK_MOST ? finding(NONE) : least;
    }

    private static boolean isWithin(int v, int least, int most) {
        return v >= least && v <= most;
    }

    private static boolean isWall(int wall) {
        return isWithin(wall, 0, WALLS - 1);
    }

    private static boolean isKind(int kind) {
        return isWithin(kind, 0, KINDS - 1);
    }

    private static boolean isHigh(int high) {
        return isWithin(high, 1, HIGH_MOST);
    }

    private static boolean isSheet(int s) {
        return isWithin(s, 0, SHEETS - 1);
    }

    private static boolean isWidth(int bits) {
        return bits == 0 || bits == 8 || bits == 16 || bits == 64;
    }

    private static boolean isUnder(int kind, int above) {
        int at = kind;
        for (int level = 0; level < KINDS && at >= 0; level++) {
            if (at == above) {
                return true;
            }
            at = ABOVE[at];
        }
        return false;
    }

    private static int asNumber(boolean is) {
        return is ? 1 : 0;
    }

    /** All that section 1 of the document tells, but for THE TAPE. */
    private static final class House {
        final int[] kinds = new int[ALL_STONES];
        final int[] highs = new int[ALL_STONES];
        final int[] prices = new int[ALL_STONES];
        final int[] counts = new int[WALLS];
        final int[] wedges = new int[WALLS];
        int beams = (1 << BEAMS) - 1;
        int slack = SLACK_FIRST;
        int night;
        int purse;

        static int place(int wall, int i) {
            return wall * ROW + i;
        }

        void becomeLike(House other) {
            System.arraycopy(other.kinds, 0, kinds, 0, ALL_STONES);
            System.arraycopy(other.highs, 0, highs, 0, ALL_STONES);
            System.arraycopy(other.prices, 0, prices, 0, ALL_STONES);
            System.arraycopy(other.counts, 0, counts, 0, WALLS);
            System.arraycopy(other.wedges, 0, wedges, 0, WALLS);
            beams = other.beams;
            slack = other.slack;
            night = other.night;
            purse = other.purse;
        }

        /** The caller has seen to it that the wall isn't full. */
        void put(int kind, int wall, int high, int price) {
            int place = place(wall, counts[wall]);
            kinds[place] = kind;
            highs[place] = high;
            prices[place] = price;
            counts[wall]++;
        }

        /** The caller has seen to it that the wall has a stone. */
        void takeLowest(int wall) {
            purse = Math.min(PURSE_MOST, purse + coinOf(wall, 0));
            counts[wall]--;
            int lowest = place(wall, 0);
            System.arraycopy(kinds, lowest + 1, kinds, lowest, counts[wall]);
            System.arraycopy(highs, lowest + 1, highs, lowest, counts[wall]);
            System.arraycopy(prices, lowest + 1, prices, lowest, counts[wall]);
        }

        void layBeam(int beam, boolean is) {
            int bit = 1 << beam;
            beams = is ? beams | bit : beams & ~bit;
        }

        int tallOf(int wall, int i) {
            int place = place(wall, i);
            int rotten = Math.max(1, highs[place] - night);
            switch (kinds[place]) {
                case ROTTEN:
                    return rotten;
                case FALSE:
                    return rotten / 2;
                default:
                    return highs[place];
            }
        }

        int coinOf(int wall, int i) {
            int place = place(wall, i);
            switch (kinds[place]) {
                case KEY:
                    return prices[place] + 5;
                case CARVED:
                    return 2 * (prices[place] + 5);
                case ROTTEN:
                    return prices[place] / 2;
                case FALSE:
                    return 0;
                default:
                    return prices[place];
            }
        }

        int topOf(int wall) {
            int top = wedges[wall];
            for (int i = 0; i < counts[wall]; i++) {
                top += tallOf(wall, i);
            }
            return top;
        }

        int coinsOf(int wall) {
            int coins = 0;
            for (int i = 0; i < counts[wall]; i++) {
                coins += coinOf(wall, i);
            }
            return coins;
        }

        int allTops() {
            int all = 0;
            for (int wall = 0; wall < WALLS; wall++) {
                all += topOf(wall);
            }
            return all;
        }

        int allCoins() {
            int all = 0;
            for (int wall = 0; wall < WALLS; wall++) {
                all += coinsOf(wall);
            }
            return all;
        }

        int allStones() {
            return Survey.stonesAt(standNow());
        }

        int standNow() {
            int stand = 0;
            for (int wall = 0; wall < WALLS; wall++) {
                stand += counts[wall] * Survey.unit(wall);
            }
            return stand;
        }
    }

    /** What is measured of a house once, so that every STAND below it can be judged quickly. */
    private static final class Survey {
        /** Room for 0 to 7 stones left in each wall. */
        static final int STEP = ROW + 1;
        static final int ALL_STANDS = 4096;

        final int[] tops = new int[WALLS * STEP];
        final int[] coinsOut = new int[WALLS * STEP];
        final int[] lowestKinds = new int[WALLS * STEP];
        int now;
        int beams;
        int slack;

        static int unit(int wall) {
            return 1 << (3 * wall);
        }

        static int leftAt(int stand, int wall) {
            return stand >> (3 * wall) & 7;
        }

        static int stonesAt(int stand) {
            return leftAt(stand, 0) + leftAt(stand, 1) + leftAt(stand, 2) + leftAt(stand, 3);
        }

        /** Whether no wall has more stones in a stand than in another one. */
        static boolean isPartOf(int stand, int whole) {
            if (stand < 0 || stand >= ALL_STANDS) {
                return false;
            }
            for (int wall = 0; wall < WALLS; wall++) {
                if (leftAt(stand, wall) > leftAt(whole, wall)) {
                    return false;
                }
            }
            return true;
        }

        void measure(House house) {
            now = house.standNow();
            beams = house.beams;
            slack = house.slack;
            for (int wall = 0; wall < WALLS; wall++) {
                int count = house.counts[wall];
                int none = wall * STEP;
                tops[none] = house.wedges[wall];
                coinsOut[none + count] = 0;
                for (int left = 1; left <= count; left++) {
                    tops[none + left] = tops[none + left - 1] + house.tallOf(wall, count - left);
                    lowestKinds[none + left] = house.kinds[House.place(wall, count - left)];
                }
                for (int left = count; left > 0; left--) {
                    coinsOut[none + left - 1] = coinsOut[none + left] + house.coinOf(wall, count - left);
                }
            }
        }

        int pulledAt(int stand) {
            return stonesAt(now) - stonesAt(stand);
        }

        int coinAt(int stand) {
            int coins = 0;
            for (int wall = 0; wall < WALLS; wall++) {
                coins += coinsOut[wall * STEP + leftAt(stand, wall)];
            }
            return coins;
        }

        int unlikeAt(int stand) {
            int most = 0;
            int top = tops[leftAt(stand, 0)];
            for (int beam = 0; beam < BEAMS; beam++) {
                int next = tops[(beam + 1) * STEP + leftAt(stand, beam + 1)];
                if ((beams >> beam & 1) == 1) {
                    most = Math.max(most, Math.abs(top - next));
                }
                top = next;
            }
            return most;
        }

        boolean lowestMayGo(int stand, int wall) {
            int left = leftAt(stand, wall);
            if (left == 0) {
                return false;
            }
            int kind = lowestKinds[wall * STEP + left];
            if (kind != KEY && kind != CARVED && kind != THROUGH) {
                return true;
            }
            if (wall < WALLS - 1 && leftAt(stand, wall + 1) > left) {
                return false;
            }
            return kind == THROUGH || wall == 0 || leftAt(stand, wall - 1) <= left;
        }

        boolean canPullAt(int stand, int wall) {
            return lowestMayGo(stand, wall) && unlikeAt(stand - unit(wall)) <= slack;
        }

        /** The COIN of the lowest stone of a wall that has one in that stand. */
        int nextCoin(int stand, int wall) {
            int at = wall * STEP + leftAt(stand, wall);
            return coinsOut[at - 1] - coinsOut[at];
        }
    }

    /** All ROWS of PULLS of a surveyed house at once, told by the STANDS that they pass. */
    private static final class Rows {
        /** How many ROWS lead to a STAND; after lead(), 1 for those from which one goes on. */
        final long[] ways = new long[Survey.ALL_STANDS];
        private final int[] best = new int[ALL_STONES + 1];

        /**
         * Follows all ROWS, or those that bring the COINS told; answers how many STANDS they reach.
         * A PULL makes the STAND's number smaller, so downwards each one is whole when its turn
         * comes; that it isn't SAFE is looked at only then, once for all PULLS that led to it.
         */
        int fill(Survey survey, Sheet told) {
            Arrays.fill(ways, 0, survey.now + 1, 0L);
            ways[survey.now] = 1;
            int reached = 0;
            for (int at = survey.now; at >= 0; at--) {
                if (ways[at] == 0) {
                    continue;
                }
                if (at != survey.now && survey.unlikeAt(at) > survey.slack) {
                    ways[at] = 0;
                    continue;
                }
                reached++;
                for (int wall = 0; wall < WALLS; wall++) {
                    if (survey.lowestMayGo(at, wall)
                            && (told == null || told.tells(survey.pulledAt(at), survey.nextCoin(at, wall)))) {
                        ways[at - Survey.unit(wall)] += ways[at];
                    }
                }
            }
            return reached;
        }

        /** Marks the STANDS from which a ROW leads to that one. */
        void lead(Survey survey, int stand) {
            Arrays.fill(ways, 0, survey.now + 1, 0L);
            ways[stand] = 1;
            for (int at = stand + 1; at <= survey.now; at++) {
                if (Survey.isPartOf(at, survey.now) && leadFrom(survey, at) >= 0) {
                    ways[at] = 1;
                }
            }
        }

        /** The first wall whose PULL leads on to a marked STAND, or -1. */
        int leadFrom(Survey survey, int at) {
            for (int wall = 0; wall < WALLS; wall++) {
                if (survey.canPullAt(at, wall) && ways[at - Survey.unit(wall)] > 0) {
                    return wall;
                }
            }
            return -1;
        }

        int leastStand(Survey survey) {
            int least = survey.now;
            for (int at = survey.now; at >= 0; at--) {
                if (ways[at] > 0 && Survey.stonesAt(at) <= Survey.stonesAt(least)) {
                    least = at;
                }
            }
            return least;
        }

        /** The fewest PULLS by which so many stones are left in a wall, or -1. */
        int fewestPulls(Survey survey, int wall, int left) {
            int fewest = -1;
            for (int at = 0; at <= survey.now; at++) {
                if (ways[at] > 0 && Survey.leftAt(at, wall) == left) {
                    int pulled = survey.pulledAt(at);
                    fewest = fewest < 0 ? pulled : Math.min(fewest, pulled);
                }
            }
            return fewest;
        }

        int fewestLeft(Survey survey, int wall) {
            int fewest = ROW;
            for (int at = 0; at <= survey.now; at++) {
                if (ways[at] > 0) {
                    fewest = Math.min(fewest, Survey.leftAt(at, wall));
                }
            }
            return fewest;
        }

        /** Finds for each number of PULLS the STAND with most COIN, of several the least. */
        void rank(Survey survey) {
            Arrays.fill(best, -1);
            for (int at = 0; at <= survey.now; at++) {
                if (ways[at] > 0) {
                    int pulled = survey.pulledAt(at);
                    if (best[pulled] < 0 || survey.coinAt(at) > survey.coinAt(best[pulled])) {
                        best[pulled] = at;
                    }
                }
            }
        }

        /** After rank(): the STAND with most COIN by so many PULLS, or by fewer if these do too. */
        int bestUpTo(Survey survey, int n) {
            int stand = survey.now;
            for (int pulled = 1; pulled <= n; pulled++) {
                int at = best[pulled];
                if (at >= 0 && survey.coinAt(at) > survey.coinAt(stand)) {
                    stand = at;
                }
            }
            return stand;
        }

        long waysBy(Survey survey, int pulls) {
            long all = 0;
            for (int at = 0; at <= survey.now; at++) {
                if (ways[at] > 0 && survey.pulledAt(at) == pulls) {
                    all += ways[at];
                }
            }
            return all;
        }
    }

    /** THE TAPE, and the TOKENS on it. */
    private static final class Tape {
        static final int END = 0;
        static final int WORD = 1;
        static final int NUMBER = 2;
        static final int SIGN = 3;
        static final int OTHER = 4;

        private final int[] bytes = new int[TAPE_MOST];
        int length;
        int token;
        int start;
        int number;
        private int end;

        /** The caller has seen to it that there is room. */
        void append(int value) {
            bytes[length] = value;
            length++;
        }

        void rewind() {
            end = 0;
            step();
        }

        void step() {
            start = end;
            while (start < length && bytes[start] == ' ') {
                start++;
            }
            end = start;
            if (start >= length) {
                token = END;
            } else if (isLetter(start)) {
                token = WORD;
                skipLetters();
            } else if (isDigit(start)) {
                token = NUMBER;
                skipDigits();
            } else {
                token = bytes[start] == ';' ? SIGN : OTHER;
                end++;
            }
        }

        private void skipLetters() {
            while (end < length && isLetter(end)) {
                end++;
            }
        }

        /** Digits of any number are one TOKEN; above NUMBER_MOST it is only kept that it is so. */
        private void skipDigits() {
            number = 0;
            while (end < length && isDigit(end)) {
                number = Math.min(NUMBER_MOST + 1, 10 * number + bytes[end] - '0');
                end++;
            }
        }

        private boolean isLetter(int i) {
            return isWithin(bytes[i], 'a', 'z');
        }

        private boolean isDigit(int i) {
            return isWithin(bytes[i], '0', '9');
        }

        boolean isNumber(int least, int most) {
            return token == NUMBER && isWithin(number, least, most);
        }

        boolean isWord(String word) {
            if (token != WORD || end - start != word.length()) {
                return false;
            }
            for (int i = 0; i < word.length(); i++) {
                if (bytes[start + i] != word.charAt(i)) {
                    return false;
                }
            }
            return true;
        }
    }

    /**
     * Tells THE TEXT of a HOUSE, on a site of its own so that a FAULT harms no other. Each ITEM's
     * method begins behind its first WORD and ends ahead of the TOKEN behind it; it answers false
     * at the TOKEN that can't stand there.
     */
    private static final class Teller {
        final Tape tape = new Tape();
        final House site = new House();
        private final Survey survey = new Survey();

        /** How many ITEMS; or, with a FAULT, -1 less its place, the site then being half told. */
        int tell(House from) {
            site.becomeLike(from);
            tape.rewind();
            for (int items = 1; items <= TAPE_MOST; items++) {
                if (!tellItem()) {
                    break;
                }
                if (tape.token == Tape.END) {
                    return items;
                }
                if (tape.token != Tape.SIGN) {
                    break;
                }
                tape.step();
            }
            return -1 - tape.start;
        }

        private boolean tellItem() {
            for (int kind = 0; kind < KINDS; kind++) {
                if (tape.isWord(nameOf(kind))) {
                    tape.step();
                    return tellStone(kind);
                }
            }
            if (tape.isWord("beam")) {
                tape.step();
                return tellBeam();
            }
            if (tape.isWord("wedge")) {
                tape.step();
                return tellWedge();
            }
            if (tape.isWord("slack")) {
                tape.step();
                return tellSlack();
            }
            if (tape.isWord("pull")) {
                tape.step();
                return tellPulls();
            }
            return false;
        }

        private static String nameOf(int kind) {
            switch (kind) {
                case KEY:
                    return "key";
                case ROTTEN:
                    return "rotten";
                case THROUGH:
                    return "through";
                case CARVED:
                    return "carved";
                case FALSE:
                    return "false";
                default:
                    return "stone";
            }
        }

        private boolean tellStone(int kind) {
            if (!tape.isNumber(0, WALLS - 1) || site.counts[tape.number] >= ROW) {
                return false;
            }
            int wall = tape.number;
            int high = HIGH_TOLD;
            int price = PRICE_FIRST;
            tape.step();
            if (tape.isWord("high")) {
                tape.step();
                if (!tape.isNumber(1, HIGH_MOST)) {
                    return false;
                }
                high = tape.number;
                tape.step();
            }
            if (tape.isWord("price")) {
                tape.step();
                if (!tape.isNumber(0, PRICE_MOST)) {
                    return false;
                }
                price = tape.number;
                tape.step();
            }
            site.put(kind, wall, high, price);
            return true;
        }

        private boolean tellBeam() {
            if (!tape.isNumber(0, BEAMS - 1)) {
                return false;
            }
            int beam = tape.number;
            tape.step();
            boolean on = tape.isWord("on");
            if (!on && !tape.isWord("off")) {
                return false;
            }
            site.layBeam(beam, on);
            tape.step();
            return true;
        }

        private boolean tellWedge() {
            if (!tape.isNumber(0, WALLS - 1)) {
                return false;
            }
            int wall = tape.number;
            tape.step();
            if (!tape.isNumber(0, WEDGE_MOST)) {
                return false;
            }
            site.wedges[wall] = tape.number;
            tape.step();
            return true;
        }

        private boolean tellSlack() {
            if (!tape.isNumber(0, SLACK_MOST)) {
                return false;
            }
            site.slack = tape.number;
            tape.step();
            return true;
        }

        private boolean tellPulls() {
            if (tape.token != Tape.NUMBER) {
                return false;
            }
            for (int done = 0; done < TAPE_MOST && tape.token == Tape.NUMBER; done++) {
                if (!tape.isNumber(0, WALLS - 1)) {
                    return false;
                }
                survey.measure(site);
                if (!survey.canPullAt(survey.now, tape.number)) {
                    return false;
                }
                site.takeLowest(tape.number);
                tape.step();
            }
            return true;
        }
    }

    /** A row of numbers of so many bits each; with 0 bits it is MISSING. */
    private static final class Sheet {
        final long[] numbers = new long[SHEET_MOST];
        int bits;
        int size;

        void layOut(int width, int n) {
            bits = width;
            size = width == 0 ? 0 : n;
            Arrays.fill(numbers, 0L);
        }

        /** A number of few bits has a sign, as those of 64 have. */
        void put(int i, long v) {
            int unused = 64 - bits;
            numbers[i] = v << unused >> unused;
        }

        /** Asked so that no sum of the arguments can wrap around. */
        boolean hasPart(int from, int n) {
            return from >= 0 && n >= 0 && n <= size && from <= size - n;
        }

        boolean tells(int i, int coin) {
            return i < size && numbers[i] == coin;
        }
    }
}
