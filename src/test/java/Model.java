import java.util.ArrayList;
import java.util.List;
import java.util.TreeMap;
import java.util.TreeSet;

/**
 * What the document says, in its most literal form: lists of what happened, all rows, all orders,
 * all sets tried one by one. It is slow, and shares nothing with the class that it judges.
 */
final class Model {
    static final int NONE = -1;
    static final int UNKNOWN = -1000000001;
    static final int OUTSIDE = -1000000002;
    static final int NOT = -1000000003;
    static final int FULL = -1000000004;

    /** What an IMAGE keeps. */
    private static final class State {
        List<Boolean> lives = new ArrayList<>();
        List<TreeSet<Integer>> knows = new ArrayList<>();
        int day = 0;
        /** For each BRIDGE who is OVER, and whom he NAMED. */
        List<TreeMap<Integer, Integer>> over = new ArrayList<>();
        /** BRIDGE, TRAVELLER, DAY. */
        List<int[]> lies = new ArrayList<>();
        List<int[]> alone = new ArrayList<>();
        long seed = 0;

        State copy() {
            State copy = new State();
            copy.lives.addAll(lives);
            for (TreeSet<Integer> known : knows) {
                copy.knows.add(new TreeSet<>(known));
            }
            copy.day = day;
            for (TreeMap<Integer, Integer> names : over) {
                copy.over.add(new TreeMap<>(names));
            }
            copy.lies.addAll(lies);
            copy.alone.addAll(alone);
            copy.seed = seed;
            return copy;
        }
    }

    private final StringBuilder text = new StringBuilder();
    private int fault = NONE;
    private ModelText hills = new ModelText();
    private State now = new State();
    private final State[] images = new State[2];
    /** Who is behind whom: the lighter, the heavier. */
    private final List<int[]> seen = new ArrayList<>();
    private final List<int[]> row = new ArrayList<>();

    private int men() {
        return hills.men.size();
    }

    private boolean noBridge(int b) {
        return b < 0 || b >= hills.bridges.size();
    }

    private boolean noMan(int t) {
        return t < 0 || t >= men();
    }

    private boolean noPair(int t, int u) {
        return noMan(t) || noMan(u) || t == u;
    }

    private int weight(int t) {
        return hills.men.get(t)[0];
    }

    private static int setOf(Iterable<Integer> members) {
        int set = 0;
        for (int k : members) {
            set += 1 << k;
        }
        return set;
    }

    // ---- the hills

    int feed(int n, long bytes) {
        if (n < 1 || n > 8) {
            return OUTSIDE;
        }
        if (text.length() + n > 500) {
            return FULL;
        }
        for (int k = n - 1; k >= 0; k--) {
            text.append((char) (bytes >> 8 * k & 255));
        }
        return text.length();
    }

    int hills() {
        ModelText told = new ModelText();
        told.read(text.toString());
        text.setLength(0);
        fault = told.place;
        if (told.fault != 0) {
            return -10 - told.fault;
        }
        hills = told;
        long seed = now.seed;
        now = new State();
        now.seed = seed;
        for (int t = 0; t < men(); t++) {
            now.lives.add(true);
            now.knows.add(new TreeSet<>(told.knows.get(t)));
        }
        for (int b = 0; b < told.bridges.size(); b++) {
            now.over.add(new TreeMap<>());
        }
        seen.clear();
        row.clear();
        images[0] = null;
        images[1] = null;
        return men();
    }

    int fault() {
        return fault;
    }

    int told(int what) {
        if (what < 0 || what > 8) {
            return OUTSIDE;
        }
        int[] all = {hills.year, hills.bridges.size(), men(), hills.oxen.size(), text.length(), now.day,
            setOf(living()), seen.size(), row.size()};
        return all[what];
    }

    private List<Integer> living() {
        List<Integer> all = new ArrayList<>();
        for (int t = 0; t < men(); t++) {
            if (now.lives.get(t)) {
                all.add(t);
            }
        }
        return all;
    }

    int bridge(int b, int what) {
        if (noBridge(b)) {
            return UNKNOWN;
        }
        if (what < 0 || what > 2) {
            return OUTSIDE;
        }
        if (what == 0) {
            return hills.bridges.get(b);
        }
        if (what == 1) {
            return setOf(now.over.get(b).keySet());
        }
        int set = 0;
        for (int t = 0; t < men(); t++) {
            set += remembered(b, t) ? 1 << t : 0;
        }
        return set;
    }

    int man(int t, int what) {
        if (noMan(t)) {
            return UNKNOWN;
        }
        if (what < 0 || what > 3) {
            return OUTSIDE;
        }
        if (what < 2) {
            return hills.men.get(t)[what];
        }
        return what == 2 ? now.lives.get(t) ? 1 : 0 : setOf(now.knows.get(t));
    }

    int ox(int o, int what) {
        if (o < 0 || o >= hills.oxen.size()) {
            return UNKNOWN;
        }
        return what < 0 || what > 1 ? OUTSIDE : hills.oxen.get(o)[what];
    }

    int named(int b, int t) {
        if (noBridge(b) || noMan(t)) {
            return UNKNOWN;
        }
        return now.over.get(b).containsKey(t) ? now.over.get(b).get(t) : NOT;
    }

    // ---- days

    private boolean remembered(int b, int t) {
        int latest = NONE;
        for (int[] lie : now.lies) {
            if (lie[0] == b && lie[1] == t) {
                latest = Math.max(latest, lie[2]);
            }
        }
        int m = hills.bridges.get(b);
        return latest != NONE && (m == 0 || now.day - latest <= m);
    }

    /** Whether one who crosses is LET GO, when these are OVER. */
    private boolean letGo(int b, int t, int u, Iterable<Integer> over) {
        if (u == NONE) {
            for (int k : living()) {
                if (k != t && weight(k) >= weight(t)) {
                    return false;
                }
            }
            for (int[] once : now.alone) {
                if (once[0] == b && once[1] == t && once[2] / hills.year == now.day / hills.year) {
                    return false;
                }
            }
            return true;
        }
        for (int k : over) {
            if (k == u) {
                return false;
            }
        }
        return weight(u) > weight(t) && now.lives.get(u) && !remembered(b, t);
    }

    int cross(int b, int t, int u) {
        if (noBridge(b) || noMan(t) || u != NONE && noPair(t, u)) {
            return UNKNOWN;
        }
        if (!now.lives.get(t) || now.over.get(b).containsKey(t) || u != NONE && !now.knows.get(t).contains(u)) {
            return NOT;
        }
        if (!letGo(b, t, u, now.over.get(b).keySet())) {
            now.lives.set(t, false);
            return 0;
        }
        now.over.get(b).put(t, u);
        if (u == NONE) {
            now.alone.add(new int[] {b, t, now.day});
        }
        return 1;
    }

    int evening() {
        TreeSet<Integer> liars = new TreeSet<>();
        for (int b = 0; b < hills.bridges.size(); b++) {
            TreeMap<Integer, Integer> names = now.over.get(b);
            for (int t : names.keySet()) {
                if (names.get(t) != NONE && !names.containsKey(names.get(t))) {
                    now.lies.add(new int[] {b, t, now.day});
                    liars.add(t);
                }
            }
        }
        for (TreeMap<Integer, Integer> names : now.over) {
            names.clear();
        }
        now.day++;
        return setOf(liars);
    }

    int know(int t, int u, boolean is) {
        if (noPair(t, u)) {
            return UNKNOWN;
        }
        boolean did = now.knows.get(t).contains(u);
        if (is) {
            now.knows.get(t).add(u);
        } else {
            now.knows.get(t).remove(u);
        }
        return did ? 1 : 0;
    }

    private int draw(int n) {
        now.seed = (now.seed * 1103515245L + 12345L) % (1L << 31);
        return (int) (now.seed / 65536 % n);
    }

    int drift(int n) {
        if (n < 1 || n > 99) {
            return OUTSIDE;
        }
        if (hills.bridges.isEmpty() || men() == 0) {
            return NOT;
        }
        for (int k = 0; k < n; k++) {
            for (int t : living()) {
                if (draw(100) < hills.men.get(t)[1]) {
                    int b = draw(hills.bridges.size());
                    int u = draw(men());
                    if (!now.over.get(b).containsKey(t)) {
                        cross(b, t, now.knows.get(t).contains(u) ? u : NONE);
                    }
                }
            }
            evening();
        }
        return setOf(living());
    }

    // ---- tried

    private List<Integer> toCome(int b) {
        List<Integer> all = living();
        all.removeAll(now.over.get(b).keySet());
        return all;
    }

    /** All rows of some of these, one by one the lesser TRAVELLER first. */
    private static void allRows(List<Integer> some, List<Integer> begun, List<List<Integer>> rows) {
        rows.add(new ArrayList<>(begun));
        for (int t : some) {
            if (!begun.contains(t)) {
                begun.add(t);
                allRows(some, begun, rows);
                begun.remove(begun.size() - 1);
            }
        }
    }

    /** Whom each of a row NAMES; null if it is no TRUE ROW. OXEN of a SET come behind; told are pairs known, too. */
    private List<Integer> namesIn(int b, List<Integer> line, int oxen, List<int[]> told) {
        List<Integer> over = new ArrayList<>(now.over.get(b).keySet());
        List<Integer> names = new ArrayList<>();
        for (int i = 0; i < line.size(); i++) {
            int t = line.get(i);
            if (letGo(b, t, NONE, over)) {
                names.add(NONE);
            } else {
                int least = Integer.MAX_VALUE;
                for (int u : line.subList(i + 1, line.size())) {
                    boolean knows = now.knows.get(t).contains(u);
                    for (int[] pair : told) {
                        knows |= pair[0] == t && pair[1] == u;
                    }
                    if (knows && letGo(b, t, u, over)) {
                        least = Math.min(least, u);
                    }
                }
                for (int o = 0; o < hills.oxen.size(); o++) {
                    if ((oxen >> o & 1) == 1 && hills.oxen.get(o)[0] > weight(t) && !remembered(b, t)) {
                        least = Math.min(least, 100 + o);
                    }
                }
                if (least == Integer.MAX_VALUE) {
                    return null;
                }
                names.add(least);
            }
            over.add(t);
        }
        return names;
    }

    private List<Integer> mostOf(int b) {
        List<List<Integer>> rows = new ArrayList<>();
        allRows(toCome(b), new ArrayList<>(), rows);
        List<Integer> best = new ArrayList<>();
        for (List<Integer> line : rows) {
            if (line.size() > best.size() && namesIn(b, line, 0, List.of()) != null) {
                best = line;
            }
        }
        return best;
    }

    int most(int b, int i) {
        if (noBridge(b)) {
            return UNKNOWN;
        }
        List<Integer> best = mostOf(b);
        if (i == NONE) {
            return best.size();
        }
        return i < 0 || i >= best.size() ? NONE : best.get(i);
    }

    int names(int b, int i) {
        if (noBridge(b)) {
            return UNKNOWN;
        }
        List<Integer> best = mostOf(b);
        return i < 0 || i >= best.size() ? OUTSIDE : namesIn(b, best, 0, List.of()).get(i);
    }

    private boolean allCan(int b, List<List<Integer>> rows, int oxen, List<int[]> told) {
        for (List<Integer> line : rows) {
            if (namesIn(b, line, oxen, told) != null) {
                return true;
            }
        }
        return false;
    }

    private List<List<Integer>> rowsOfAll(int b) {
        List<List<Integer>> rows = new ArrayList<>();
        allRows(toCome(b), new ArrayList<>(), rows);
        int all = toCome(b).size();
        rows.removeIf(line -> line.size() < all);
        return rows;
    }

    int tellings(int b) {
        if (noBridge(b)) {
            return UNKNOWN;
        }
        List<List<Integer>> rows = rowsOfAll(b);
        List<int[]> pairs = new ArrayList<>();
        for (int t : toCome(b)) {
            for (int u : toCome(b)) {
                if (t != u && !now.knows.get(t).contains(u)) {
                    pairs.add(new int[] {t, u});
                }
            }
        }
        for (int count = 0; count <= Math.min(pairs.size(), men()); count++) {
            if (tellSome(b, rows, pairs, 0, count, new ArrayList<>())) {
                return count;
            }
        }
        return NONE;
    }

    private boolean tellSome(int b, List<List<Integer>> rows, List<int[]> pairs, int from, int count, List<int[]> told) {
        if (count == 0) {
            return allCan(b, rows, 0, told);
        }
        for (int k = from; k < pairs.size(); k++) {
            told.add(pairs.get(k));
            if (tellSome(b, rows, pairs, k + 1, count - 1, told)) {
                return true;
            }
            told.remove(told.size() - 1);
        }
        return false;
    }

    int hired(int b, int what) {
        if (noBridge(b)) {
            return UNKNOWN;
        }
        if (what < 0 || what > 1) {
            return OUTSIDE;
        }
        List<List<Integer>> rows = rowsOfAll(b);
        int best = NONE;
        int least = Integer.MAX_VALUE;
        for (int set = 0; set < 1 << hills.oxen.size(); set++) {
            int price = 0;
            for (int o = 0; o < hills.oxen.size(); o++) {
                price += (set >> o & 1) * hills.oxen.get(o)[1];
            }
            if (price < least && allCan(b, rows, set, List.of())) {
                best = set;
                least = price;
            }
        }
        return best == NONE ? NONE : what == 0 ? least : best;
    }

    int found(int what) {
        if (what != 0 && what != 1) {
            return OUTSIDE;
        }
        TreeSet<Integer> out = new TreeSet<>();
        for (int t = 0; t < men(); t++) {
            TreeSet<Integer> said = new TreeSet<>();
            for (TreeMap<Integer, Integer> names : now.over) {
                if (names.containsKey(t)) {
                    said.add(names.get(t));
                    if (what == 1 && names.get(t) != NONE && !now.lives.get(names.get(t))) {
                        out.add(t);
                    }
                }
            }
            if (what == 0 && said.size() > 1) {
                out.add(t);
            }
        }
        return setOf(out);
    }

    int whom(int b, int t) {
        if (noBridge(b) || noMan(t)) {
            return UNKNOWN;
        }
        if (!toCome(b).contains(t)) {
            return NOT;
        }
        for (int q = 100; q >= 0; q--) {
            for (int u : now.knows.get(t)) {
                if (hills.men.get(u)[1] == q && letGo(b, t, u, now.over.get(b).keySet())) {
                    return u;
                }
            }
        }
        return NONE;
    }

    // ---- what was seen

    int see(int a, int b, boolean letGo) {
        if (noPair(a, b)) {
            return UNKNOWN;
        }
        if (seen.size() == 20) {
            return FULL;
        }
        seen.add(letGo ? new int[] {a, b} : new int[] {b, a});
        return seen.size();
    }

    private List<List<Integer>> fittingOrders() {
        List<Integer> all = new ArrayList<>();
        for (int t = 0; t < men(); t++) {
            all.add(t);
        }
        List<List<Integer>> orders = new ArrayList<>();
        allRows(all, new ArrayList<>(), orders);
        orders.removeIf(order -> order.size() < men());
        for (int[] sight : seen) {
            orders.removeIf(order -> order.indexOf(sight[1]) < order.indexOf(sight[0]));
        }
        return orders;
    }

    int orders() {
        return fittingOrders().size();
    }

    int heavier(int t) {
        if (noMan(t)) {
            return UNKNOWN;
        }
        List<List<Integer>> orders = fittingOrders();
        int set = 0;
        for (int u = 0; u < men() && !orders.isEmpty(); u++) {
            boolean behind = true;
            for (List<Integer> order : orders) {
                behind &= order.indexOf(u) > order.indexOf(t);
            }
            set += behind ? 1 << u : 0;
        }
        return set;
    }

    // ---- the row

    int row(int t, int u) {
        if (noMan(t) || u != NONE && noPair(t, u)) {
            return UNKNOWN;
        }
        if (row.size() == 6) {
            return FULL;
        }
        row.add(new int[] {t, u});
        return row.size();
    }

    int odds() {
        TreeSet<Integer> names = new TreeSet<>();
        for (int[] one : row) {
            names.add(one[1]);
        }
        names.remove(NONE);
        long odds = 1000000000;
        for (int u : names) {
            odds = odds * hills.men.get(u)[1] / 100;
        }
        return (int) odds;
    }

    int wrong(int b) {
        if (noBridge(b)) {
            return UNKNOWN;
        }
        State before = now;
        now = now.copy();
        int eaten = NONE;
        for (int i = 0; i < row.size() && eaten == NONE; i++) {
            eaten = cross(b, row.get(i)[0], row.get(i)[1]) == 1 ? NONE : i;
        }
        now = before;
        for (int i = 0; i < row.size() && eaten == NONE; i++) {
            boolean behind = row.get(i)[1] == NONE;
            for (int k = i + 1; k < row.size(); k++) {
                behind |= row.get(k)[0] == row.get(i)[1];
            }
            eaten = behind ? NONE : i;
        }
        return eaten;
    }

    int tear() {
        int both = row.size() + seen.size();
        row.clear();
        seen.clear();
        return both;
    }

    // ---- draws, images

    int seed(int v) {
        if (v < 0) {
            return OUTSIDE;
        }
        int before = (int) now.seed;
        now.seed = v;
        return before;
    }

    int keep(int i) {
        if (i != 0 && i != 1) {
            return UNKNOWN;
        }
        images[i] = now.copy();
        return 1;
    }

    int goBack(int i) {
        if (i != 0 && i != 1) {
            return UNKNOWN;
        }
        if (images[i] == null) {
            return NOT;
        }
        now = images[i].copy();
        return 1;
    }
}
