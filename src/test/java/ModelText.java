import java.util.ArrayList;
import java.util.List;
import java.util.regex.Matcher;
import java.util.regex.Pattern;

/** The text of a house, for the Model: all tokens first, then item by item. */
final class ModelText {
    private static final Pattern TOKEN = Pattern.compile(" *([a-z]+|[0-9]+|;|[^ ])");
    private static final List<String> KINDS = List.of("stone", "key", "rotten", "through", "carved", "false");

    private final List<String> tokens = new ArrayList<>();
    private final List<Integer> places = new ArrayList<>();
    private final Model.Site site;
    private int next;

    ModelText(String text, Model.Site site) {
        this.site = site;
        Matcher m = Pattern.compile(TOKEN.pattern(), Pattern.DOTALL).matcher(text);
        int at = 0;
        while (m.find(at)) {
            tokens.add(m.group(1));
            places.add(m.start(1));
            at = m.end();
        }
        tokens.add("");
        places.add(text.length());
    }

    /** How many items, or -1 less the place of the fault. */
    int answer() {
        int items = 0;
        while (item()) {
            items++;
            if (peek().isEmpty()) {
                return items;
            }
            if (!take(";")) {
                break;
            }
        }
        return -1 - places.get(next);
    }

    private String peek() {
        return tokens.get(next);
    }

    private boolean take(String token) {
        if (!peek().equals(token)) {
            return false;
        }
        next++;
        return true;
    }

    /** The number if it is there and within the bounds, else -1 and nothing is taken. */
    private int number(int least, int most) {
        if (!peek().matches("[0-9]+")) {
            return -1;
        }
        java.math.BigInteger v = new java.math.BigInteger(peek());
        if (v.bitLength() > 20 || v.intValue() < least || v.intValue() > most) {
            return -1;
        }
        next++;
        return v.intValue();
    }

    private boolean item() {
        if (KINDS.contains(peek())) {
            return stone(KINDS.indexOf(tokens.get(next++)));
        }
        if (take("beam")) {
            int beam = number(0, 2);
            if (beam < 0 || !peek().equals("on") && !peek().equals("off")) {
                return false;
            }
            site.beams[beam] = tokens.get(next++).equals("on");
            return true;
        }
        if (take("wedge")) {
            int wall = number(0, 3);
            int v = wall < 0 ? -1 : number(0, 20);
            if (v < 0) {
                return false;
            }
            site.wedges[wall] = v;
            return true;
        }
        if (take("slack")) {
            int v = number(0, 99);
            site.slack = v;
            return v >= 0;
        }
        return take("pull") && pulls();
    }

    private boolean stone(int kind) {
        int wall = number(0, 3);
        if (wall < 0) {
            return false;
        }
        if (site.walls.get(wall).size() == 7) {
            next--;
            return false;
        }
        int high = take("high") ? number(1, 30) : 5;
        if (high < 0) {
            return false;
        }
        int price = take("price") ? number(0, 999) : 10;
        if (price < 0) {
            return false;
        }
        site.walls.get(wall).add(Model.Stone.make(kind, high, price));
        return true;
    }

    private boolean pulls() {
        int done = 0;
        do {
            int wall = number(0, 3);
            if (wall < 0) {
                return done > 0 && !peek().matches("[0-9]+");
            }
            if (!site.pull(wall)) {
                next--;
                return false;
            }
            done++;
        } while (true);
    }
}
