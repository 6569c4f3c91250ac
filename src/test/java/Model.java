import java.util.ArrayList;
import java.util.List;
import java.util.TreeMap;
import java.util.TreeSet;

/**
 * The document once more, told as plainly as can be and with no thought of speed: stones are
 * objects of kinds, a row of pulls is followed by pulling, and what is asked of rows is found by
 * trying them all. RandomTest holds WallDown against it.
 */
final class Model {
    abstract static class Stone {
        int high;
        int price = 10;

        abstract int kind();

        int tall(int night) {
            return high;
        }

        int coin() {
            return price;
        }

        boolean mayGo(List<List<Stone>> walls, int wall) {
            return true;
        }

        static boolean more(List<List<Stone>> walls, int beside, int wall) {
            return beside >= 0 && beside < walls.size() && walls.get(beside).size() > walls.get(wall).size();
        }

        static Stone make(int kind, int high, int price) {
            Stone made = switch (kind) {
                case 0 -> new Plain();
                case 1 -> new Key();
                case 2 -> new Rotten();
                case 3 -> new Through();
                case 4 -> new Carved();
                default -> new False();
            };
            made.high = high;
            made.price = price;
            return made;
        }
    }

    static class Plain extends Stone {
        int kind() {
            return 0;
        }
    }

    static class Key extends Plain {
        int kind() {
            return 1;
        }

        int coin() {
            return super.coin() + 5;
        }

        boolean mayGo(List<List<Stone>> walls, int wall) {
            return !more(walls, wall - 1, wall) && !more(walls, wall + 1, wall);
        }
    }

    static class Rotten extends Plain {
        int kind() {
            return 2;
        }

        int tall(int night) {
            return Math.max(1, high - night);
        }

        int coin() {
            return price / 2;
        }
    }

    static class Through extends Plain {
        int kind() {
            return 3;
        }

        boolean mayGo(List<List<Stone>> walls, int wall) {
            return !more(walls, wall + 1, wall);
        }
    }

    static class Carved extends Key {
        int kind() {
            return 4;
        }

        int coin() {
            return super.coin() * 2;
        }
    }

    static class False extends Rotten {
        int kind() {
            return 5;
        }

        int tall(int night) {
            return super.tall(night) / 2;
        }

        int coin() {
            return 0;
        }
    }

    /** What section 1 tells. */
    static final class Site {
        List<List<Stone>> walls = new ArrayList<>();
        int[] wedges = new int[4];
        boolean[] beams = {true, true, true};
        int slack = 10;
        int night;
        int purse;

        Site() {
            for (int wall = 0; wall < 4; wall++) {
                walls.add(new ArrayList<>());
            }
        }

        Site twin() {
            Site twin = new Site();
            for (int wall = 0; wall < 4; wall++) {
                for (Stone s : walls.get(wall)) {
                    twin.walls.get(wall).add(Stone.make(s.kind(), s.high, s.price));
                }
            }
            twin.wedges = wedges.clone();
            twin.beams = beams.clone();
            twin.slack = slack;
            twin.night = night;
            twin.purse = purse;
            return twin;
        }

        int top(int wall) {
            int top = wedges[wall];
            for (Stone s : walls.get(wall)) {
                top += s.tall(night);
            }
            return top;
        }

        int unlike() {
            int most = 0;
            for (int beam = 0; beam < 3; beam++) {
                if (beams[beam]) {
                    most = Math.max(most, Math.abs(top(beam) - top(beam + 1)));
                }
            }
            return most;
        }

        /** The pull is done, or nothing and it is told. */
        boolean pull(int wall) {
            List<Stone> row = walls.get(wall);
            if (row.isEmpty() || !row.get(0).mayGo(walls, wall)) {
                return false;
            }
            Stone lowest = row.remove(0);
            if (unlike() > slack) {
                row.add(0, lowest);
                return false;
            }
            purse = Math.min(999999, purse + lowest.coin());
            return true;
        }

        int stand() {
            return walls.get(0).size() + 8 * walls.get(1).size() + 64 * walls.get(2).size()
                    + 512 * walls.get(3).size();
        }

        int stones() {
            return walls.get(0).size() + walls.get(1).size() + walls.get(2).size() + walls.get(3).size();
        }

        /** Every stand that can be, with the site in it; the nearest ones first. */
        List<Site> all() {
            TreeSet<Integer> seen = new TreeSet<>();
            List<Site> found = new ArrayList<>();
            Site start = twin();
            start.purse = 0;
            found.add(start);
            seen.add(stand());
            for (int i = 0; i < found.size(); i++) {
                for (int wall = 0; wall < 4; wall++) {
                    Site next = found.get(i).twin();
                    if (next.pull(wall) && seen.add(next.stand())) {
                        found.add(next);
                    }
                }
            }
            return found;
        }

        boolean canBe(int stand) {
            for (Site s : all()) {
                if (s.stand() == stand) {
                    return true;
                }
            }
            return false;
        }
    }

    Site site = new Site();
    Site kept;
    StringBuilder tape = new StringBuilder();
    long[][] sheets = new long[4][];
    int[] widths = new int[4];
    int[] found = new int[7];

    /** Counts a finding. */
    private int no(int finding) {
        found[-1000000001 - finding]++;
        return finding;
    }

    private static boolean in(int v, int from, int to) {
        return from <= v && v <= to;
    }

    private Stone at(int wall, int i) {
        return in(wall, 0, 3) && in(i, 0, site.walls.get(wall).size() - 1) ? site.walls.get(wall).get(i) : null;
    }

    private boolean isStand(int stand) {
        return in(stand, 0, 4095) && stand % 8 <= site.walls.get(0).size()
                && stand / 8 % 8 <= site.walls.get(1).size() && stand / 64 % 8 <= site.walls.get(2).size()
                && stand / 512 <= site.walls.get(3).size();
    }

    int stone(int kind, int wall, int high) {
        if (!in(kind, 0, 5) || !in(wall, 0, 3) || !in(high, 1, 30)) {
            return no(Check.BEYOND);
        }
        if (site.walls.get(wall).size() == 7) {
            return no(Check.FULL);
        }
        site.walls.get(wall).add(Stone.make(kind, high, 10));
        return site.walls.get(wall).size() - 1;
    }

    private int coins(int wall) {
        int all = 0;
        for (Stone s : site.walls.get(wall)) {
            all += s.coin();
        }
        return all;
    }

    int wallOf(int wall, int what) {
        if (!in(wall, 0, 3) || !in(what, 0, 3)) {
            return no(Check.BEYOND);
        }
        int[] all = {site.walls.get(wall).size(), site.wedges[wall], site.top(wall), coins(wall)};
        return all[what];
    }

    int of(int wall, int i, int what) {
        Stone s = at(wall, i);
        if (s == null || !in(what, 0, 5)) {
            return no(Check.BEYOND);
        }
        int[] all = {s.kind(), s.high, s.price, s.tall(site.night), s.coin(), s.mayGo(site.walls, wall) ? 1 : 0};
        return all[what];
    }

    int set(int wall, int i, int what, int v) {
        Stone s = at(wall, i);
        if (s == null || !in(what, 1, 2) || !(what == 1 ? in(v, 1, 30) : in(v, 0, 999))) {
            return no(Check.BEYOND);
        }
        int was = what == 1 ? s.high : s.price;
        if (what == 1) {
            s.high = v;
        } else {
            s.price = v;
        }
        return was;
    }

    int turn(int wall, int i, int kind) {
        Stone s = at(wall, i);
        if (s == null || !in(kind, 0, 5)) {
            return no(Check.BEYOND);
        }
        site.walls.get(wall).set(i, Stone.make(kind, s.high, s.price));
        return s.kind();
    }

    int as(int wall, int i, int kind) {
        Stone s = at(wall, i);
        if (s == null || !in(kind, 0, 5)) {
            return no(Check.BEYOND);
        }
        return Stone.make(kind, 1, 1).getClass().isInstance(s) ? s.high : no(Check.KIND);
    }

    int wedge(int wall, int v) {
        if (!in(wall, 0, 3) || !in(v, 0, 20)) {
            return no(Check.BEYOND);
        }
        int was = site.wedges[wall];
        site.wedges[wall] = v;
        return was;
    }

    int slack(int v) {
        if (!in(v, 0, 99)) {
            return no(Check.BEYOND);
        }
        int was = site.slack;
        site.slack = v;
        return was;
    }

    int beam(int beam, boolean is) {
        if (!in(beam, 0, 2)) {
            return no(Check.BEYOND);
        }
        boolean was = site.beams[beam];
        site.beams[beam] = is;
        return was == is ? 0 : 1;
    }

    private int tops() {
        return site.top(0) + site.top(1) + site.top(2) + site.top(3);
    }

    int nights(int n) {
        if (!in(n, 1, 99)) {
            return no(Check.BEYOND);
        }
        if (site.night + n > 999) {
            return no(Check.STATE);
        }
        int before = tops();
        site.night += n;
        return before - tops();
    }

    int now(int what) {
        if (!in(what, 0, 7)) {
            return no(Check.BEYOND);
        }
        int beams = (site.beams[0] ? 1 : 0) + (site.beams[1] ? 2 : 0) + (site.beams[2] ? 4 : 0);
        int[] all = {site.night, site.slack, site.purse, beams, site.stones(), site.stand(), site.unlike(),
            site.unlike() <= site.slack ? 1 : 0};
        return all[what];
    }

    int pull(int wall) {
        if (!in(wall, 0, 3)) {
            return no(Check.BEYOND);
        }
        Stone lowest = at(wall, 0);
        return site.pull(wall) ? lowest.tall(site.night) : no(Check.STATE);
    }

    int pulls() {
        int set = 0;
        for (int wall = 0; wall < 4; wall++) {
            set |= site.twin().pull(wall) ? 1 << wall : 0;
        }
        return set;
    }

    int can(int stand) {
        return !isStand(stand) ? no(Check.BEYOND) : site.canBe(stand) ? 1 : 0;
    }

    int stands() {
        return site.all().size();
    }

    int least() {
        Site best = site;
        for (Site s : site.all()) {
            if (s.stones() < best.stones() || s.stones() == best.stones() && s.stand() < best.stand()) {
                best = s;
            }
        }
        return best.stand();
    }

    /** Rows from a site on to a stand; those from a stand that was met are known. */
    private static long rows(Site from, int stand, TreeMap<Integer, Long> known) {
        if (from.stand() == stand) {
            return 1;
        }
        if (!known.containsKey(from.stand())) {
            long all = 0;
            for (int wall = 0; wall < 4; wall++) {
                Site next = from.twin();
                if (next.pull(wall)) {
                    all += rows(next, stand, known);
                }
            }
            known.put(from.stand(), all);
        }
        return known.get(from.stand());
    }

    long ways(int stand) {
        return !isStand(stand) ? no(Check.BEYOND) : rows(site, stand, new TreeMap<>());
    }

    private static int firstOf(Site from, int stand) {
        for (int wall = 0; wall < 4; wall++) {
            Site next = from.twin();
            if (next.pull(wall) && rows(next, stand, new TreeMap<>()) > 0) {
                return wall;
            }
        }
        return -1;
    }

    int first(int stand) {
        if (!isStand(stand)) {
            return no(Check.BEYOND);
        }
        int wall = stand == site.stand() ? -1 : firstOf(site, stand);
        return wall < 0 ? no(Check.NONE) : wall;
    }

    int bring(int stand) {
        if (!isStand(stand)) {
            return no(Check.BEYOND);
        }
        if (rows(site, stand, new TreeMap<>()) == 0) {
            return no(Check.STATE);
        }
        int pulled = 0;
        for (; site.stand() != stand; pulled++) {
            site.pull(firstOf(site, stand));
        }
        return pulled;
    }

    int slackFor(int stand) {
        if (!isStand(stand)) {
            return no(Check.BEYOND);
        }
        Site other = site.twin();
        for (other.slack = 0; other.slack <= 99; other.slack++) {
            if (other.canBe(stand)) {
                return other.slack;
            }
        }
        return no(Check.NONE);
    }

    int slackAll() {
        return slackFor(0);
    }

    private Site best(int n) {
        Site best = null;
        for (Site s : site.all()) {
            if (site.stones() - s.stones() <= n && (best == null || s.purse > best.purse
                    || s.purse == best.purse && (s.stones() > best.stones()
                    || s.stones() == best.stones() && s.stand() < best.stand()))) {
                best = s;
            }
        }
        return best;
    }

    int most(int n) {
        return !in(n, 0, 28) ? no(Check.BEYOND) : best(n).purse;
    }

    int where(int n) {
        return !in(n, 0, 28) ? no(Check.BEYOND) : best(n).stand();
    }

    int out(int wall, int i) {
        Stone s = at(wall, i);
        if (s == null) {
            return no(Check.BEYOND);
        }
        int fewest = 99;
        for (Site other : site.all()) {
            if (site.walls.get(wall).size() - other.walls.get(wall).size() > i) {
                fewest = Math.min(fewest, site.stones() - other.stones());
            }
        }
        return fewest == 99 ? no(Check.NONE) : fewest;
    }

    int reach(int wall) {
        if (!in(wall, 0, 3)) {
            return no(Check.BEYOND);
        }
        int most = 0;
        for (Site other : site.all()) {
            most = Math.max(most, site.walls.get(wall).size() - other.walls.get(wall).size());
        }
        return most;
    }

    int help() {
        int most = stands();
        int best = Check.NONE;
        for (int wall = 0; wall < 4; wall++) {
            for (int v = 1; v <= 20; v++) {
                Site other = site.twin();
                other.wedges[wall] = v;
                int stands = other.all().size();
                if (stands > most) {
                    most = stands;
                    best = 100 * wall + v;
                }
            }
        }
        return best == Check.NONE ? no(best) : best;
    }

    int frees() {
        int most = stands();
        int best = Check.NONE;
        for (int beam = 0; beam < 3; beam++) {
            Site other = site.twin();
            other.beams[beam] = false;
            int stands = other.all().size();
            if (stands > most) {
                most = stands;
                best = beam;
            }
        }
        return best == Check.NONE ? no(best) : best;
    }

    int kind(int wall) {
        if (!in(wall, 0, 3)) {
            return no(Check.BEYOND);
        }
        Stone lowest = at(wall, 0);
        if (lowest == null) {
            return no(Check.STATE);
        }
        int most = 0;
        int best = 0;
        for (int kind = 0; kind < 6; kind++) {
            Site other = site.twin();
            other.walls.get(wall).set(0, Stone.make(kind, lowest.high, lowest.price));
            int stands = other.all().size();
            if (stands > most) {
                most = stands;
                best = kind;
            }
        }
        return best;
    }

    int till() {
        int latest = Check.NONE;
        for (int on = 0; on <= 60; on++) {
            Site other = site.twin();
            other.night += on;
            if (other.canBe(0)) {
                latest = other.night;
            }
        }
        return latest == Check.NONE ? no(latest) : latest;
    }

    int feed(int bytes, int n) {
        if (!in(n, 1, 4)) {
            return no(Check.BEYOND);
        }
        if (tape.length() + n > 120) {
            return no(Check.FULL);
        }
        for (int i = n - 1; i >= 0; i--) {
            tape.append((char) (bytes >>> (8 * i) & 255));
        }
        return tape.length();
    }

    int wipe() {
        int had = tape.length();
        tape.setLength(0);
        return had;
    }

    int house() {
        Site other = site.twin();
        int answer = new ModelText(tape.toString(), other).answer();
        tape.setLength(0);
        if (answer >= 0) {
            site = other;
        }
        return answer;
    }

    int sheet(int s, int bits, int n) {
        if (!in(s, 0, 3) || bits != 0 && bits != 8 && bits != 16 && bits != 64) {
            return no(Check.BEYOND);
        }
        if (n < 0) {
            return no(Check.SIZE);
        }
        if (n > 40) {
            return no(Check.BEYOND);
        }
        widths[s] = bits;
        sheets[s] = bits == 0 ? null : new long[n];
        return bits == 0 ? 0 : n;
    }

    private long cut(int s, long v) {
        return widths[s] == 8 ? (byte) v : widths[s] == 16 ? (short) v : v;
    }

    long write(int s, int i, long v) {
        if (!in(s, 0, 3)) {
            return no(Check.BEYOND);
        }
        if (sheets[s] == null) {
            return no(Check.MISSING);
        }
        if (!in(i, 0, sheets[s].length - 1)) {
            return no(Check.BEYOND);
        }
        long was = sheets[s][i];
        sheets[s][i] = cut(s, v);
        return was;
    }

    int copy(int s, int from, int t, int to, int n) {
        if (!in(s, 0, 3) || !in(t, 0, 3)) {
            return no(Check.BEYOND);
        }
        if (sheets[s] == null || sheets[t] == null) {
            return no(Check.MISSING);
        }
        if (widths[s] != widths[t]) {
            return no(Check.KIND);
        }
        if (from < 0 || to < 0 || n < 0 || (long) from + n > sheets[s].length || (long) to + n > sheets[t].length) {
            return no(Check.BEYOND);
        }
        long[] were = sheets[s].clone();
        for (int i = 0; i < n; i++) {
            sheets[t][to + i] = were[from + i];
        }
        return n;
    }

    int lays(int s) {
        if (!in(s, 0, 3)) {
            return no(Check.BEYOND);
        }
        if (sheets[s] == null) {
            return no(Check.MISSING);
        }
        int done = 0;
        while (done < sheets[s].length && sheets[s][done] >= 0 && sheets[s][done] < 4
                && site.pull((int) sheets[s][done])) {
            done++;
        }
        return done;
    }

    int book(int s) {
        if (!in(s, 0, 3)) {
            return no(Check.BEYOND);
        }
        if (sheets[s] == null) {
            return no(Check.MISSING);
        }
        int n = 0;
        for (; n < sheets[s].length && n <= 28; n++) {
            sheets[s][n] = cut(s, most(n));
        }
        return n;
    }

    /** Rows from a site on that bring the coins from the i-th on. */
    private static long rowsOf(Site from, long[] coins, int i, TreeMap<Integer, Long> known) {
        if (i == coins.length) {
            return 1;
        }
        if (!known.containsKey(from.stand())) {
            long all = 0;
            for (int wall = 0; wall < 4; wall++) {
                Site next = from.twin();
                next.purse = 0;
                if (next.pull(wall) && next.purse == coins[i]) {
                    all += rowsOf(next, coins, i + 1, known);
                }
            }
            known.put(from.stand(), all);
        }
        return known.get(from.stand());
    }

    long read(int s) {
        if (!in(s, 0, 3)) {
            return no(Check.BEYOND);
        }
        if (sheets[s] == null) {
            return no(Check.MISSING);
        }
        if (sheets[s].length > 28) {
            return no(Check.SIZE);
        }
        return rowsOf(site, sheets[s], 0, new TreeMap<>());
    }

    int image() {
        kept = site.twin();
        return 1;
    }

    int undo() {
        if (kept == null) {
            return no(Check.NONE);
        }
        site = kept.twin();
        return site.stones();
    }

    int tear() {
        int was = kept == null ? 0 : 1;
        kept = null;
        return was;
    }

    int count(int what) {
        if (!in(what, 0, 3)) {
            return no(Check.BEYOND);
        }
        int[] all = {site.stones(), tape.length(), tops(), coins(0) + coins(1) + coins(2) + coins(3)};
        return all[what];
    }

    int status(int which) {
        if (!in(which, -1, 6)) {
            return no(Check.BEYOND);
        }
        int all = 0;
        for (int i = 0; i < 7; i++) {
            all += which == -1 || which == i ? found[i] : 0;
        }
        return all;
    }
}
