/**
 * Bridges, under each of which sits one who eats whoever crosses, but lets go who names somebody
 * heavier that is still to come. ../shared/DOC.md says what each call answers; the words in
 * capitals in the comments here are its terms.
 */
public final class HeavierToCome {
    public static final int NONE = -1, UNKNOWN = -1000000001, OUTSIDE = -1000000002, NOT = -1000000003, FULL = -1000000004;

    private static final int BILLION = 1000000000;
    private static final int TEXT_MOST = 500;
    private static final int BRIDGES_MOST = 5;
    private static final int MEN_MOST = 6;
    private static final int KNOWS_MOST = 12;
    private static final int OXEN_MOST = 5;
    private static final int SEEN_MOST = 20;
    private static final int ROW_MOST = 6;
    private static final int DRIFT_MOST = 99;
    private static final int FAULT_BASE = -10;

    private final Land land;
    private final Land draft;
    private final Reader reader;
    private final Days now;
    private final Days firstImage;
    private final Days secondImage;
    private final Trial trial;
    private final Sights sights;
    private final Queue queue;
    private int keptImages;

    public HeavierToCome() {
        land = new Land();
        draft = new Land();
        reader = new Reader();
        now = new Days(land);
        firstImage = new Days(land);
        secondImage = new Days(land);
        trial = new Trial(land, now);
        sights = new Sights();
        queue = new Queue();
        keptImages = 0;
    }

    // ---- the hills

    public int feed(int n, long bytes) {
        if (n < 1 || n > 8) {
            return OUTSIDE;
        }
        if (reader.length + n > TEXT_MOST) {
            return FULL;
        }
        return reader.add(n, bytes);
    }

    public int hills() {
        int number = reader.readInto(draft);
        reader.length = 0;
        if (number != 0) {
            return FAULT_BASE - number;
        }
        land.copyFrom(draft);
        now.begin();
        sights.clear();
        queue.clear();
        keptImages = 0;
        return land.men;
    }

    public int fault() {
        return reader.faultPlace;
    }

    public int told(int what) {
        switch (what) {
            case 0: return land.year;
            case 1: return land.bridges;
            case 2: return land.men;
            case 3: return land.oxen;
            case 4: return reader.length;
            case 5: return now.day;
            case 6: return now.lives;
            case 7: return sights.count;
            case 8: return queue.count;
            default: return OUTSIDE;
        }
    }

    public int bridge(int b, int what) {
        if (!land.hasBridge(b)) {
            return UNKNOWN;
        }
        switch (what) {
            case 0: return land.forgets[b];
            case 1: return now.over[b];
            case 2: return now.allRemembered(b);
            default: return OUTSIDE;
        }
    }

    public int man(int t, int what) {
        if (!land.hasMan(t)) {
            return UNKNOWN;
        }
        switch (what) {
            case 0: return land.weight[t];
            case 1: return land.chance[t];
            case 2: return has(now.lives, t) ? 1 : 0;
            case 3: return now.knows[t];
            default: return OUTSIDE;
        }
    }

    public int ox(int o, int what) {
        if (!land.hasOx(o)) {
            return UNKNOWN;
        }
        switch (what) {
            case 0: return land.oxWeight[o];
            case 1: return land.oxPrice[o];
            default: return OUTSIDE;
        }
    }

    public int named(int b, int t) {
        if (!land.hasBridge(b) || !land.hasMan(t)) {
            return UNKNOWN;
        }
        return has(now.over[b], t) ? now.nameBy[slot(b, t)] : NOT;
    }

    // ---- days

    public int cross(int b, int t, int u) {
        if (!land.hasBridge(b) || !land.mayName(t, u)) {
            return UNKNOWN;
        }
        if (!has(now.toCome(b), t) || (u != NONE && !has(now.knows[t], u))) {
            return NOT;
        }
        return now.go(b, t, u);
    }

    public int evening() {
        return now.endDay();
    }

    public int know(int t, int u, boolean is) {
        if (!land.arePair(t, u)) {
            return UNKNOWN;
        }
        int before = has(now.knows[t], u) ? 1 : 0;
        now.knows[t] = is ? now.knows[t] | bit(u) : now.knows[t] & ~bit(u);
        return before;
    }

    public int drift(int n) {
        if (n < 1 || n > DRIFT_MOST) {
            return OUTSIDE;
        }
        if (land.bridges < 1 || land.men < 1) {
            return NOT;
        }
        for (int k = 0; k < n; k++) {
            now.drawDay();
        }
        return now.lives;
    }

    // ---- tried

    public int most(int b, int i) {
        if (!land.hasBridge(b)) {
            return UNKNOWN;
        }
        int count = trial.lineUp(b);
        if (i == NONE) {
            return count;
        }
        return i >= 0 && i < count ? trial.line[i] : NONE;
    }

    public int names(int b, int i) {
        if (!land.hasBridge(b)) {
            return UNKNOWN;
        }
        int count = trial.lineUp(b);
        return i >= 0 && i < count ? trial.nameInLine(i) : OUTSIDE;
    }

    public int tellings(int b) {
        return land.hasBridge(b) ? trial.fewestTold(b) : UNKNOWN;
    }

    public int hired(int b, int what) {
        if (!land.hasBridge(b)) {
            return UNKNOWN;
        }
        if (what != 0 && what != 1) {
            return OUTSIDE;
        }
        int set = trial.cheapestOxen(b);
        return what == 1 || set == NONE ? set : land.priceOf(set);
    }

    public int found(int what) {
        switch (what) {
            case 0: return now.saidUnlike();
            case 1: return now.saidTheDead();
            default: return OUTSIDE;
        }
    }

    public int whom(int b, int t) {
        if (!land.hasBridge(b) || !land.hasMan(t)) {
            return UNKNOWN;
        }
        return has(now.toCome(b), t) ? land.likeliest(now.helpers(b, t)) : NOT;
    }

    // ---- what was seen

    public int see(int a, int b, boolean letGo) {
        if (!land.arePair(a, b)) {
            return UNKNOWN;
        }
        if (sights.count >= SEEN_MOST) {
            return FULL;
        }
        return letGo ? sights.add(a, b) : sights.add(b, a);
    }

    public int orders() {
        return sights.countOrders(land.men);
    }

    public int heavier(int t) {
        return land.hasMan(t) ? sights.alwaysBehind(t, land.men) : UNKNOWN;
    }

    // ---- the row

    public int row(int t, int u) {
        if (!land.mayName(t, u)) {
            return UNKNOWN;
        }
        return queue.count < ROW_MOST ? queue.add(t, u) : FULL;
    }

    public int odds() {
        return land.oddsOf(queue.allNamed());
    }

    public int wrong(int b) {
        return land.hasBridge(b) ? queue.firstWrong(now, b) : UNKNOWN;
    }

    public int tear() {
        int both = queue.count + sights.count;
        queue.clear();
        sights.clear();
        return both;
    }

    // ---- draws, images

    public int seed(int v) {
        if (v < 0) {
            return OUTSIDE;
        }
        int before = now.seed;
        now.seed = v;
        return before;
    }

    public int keep(int i) {
        if (!isImage(i)) {
            return UNKNOWN;
        }
        image(i).copyFrom(now);
        keptImages |= bit(i);
        return 1;
    }

    public int goBack(int i) {
        if (!isImage(i)) {
            return UNKNOWN;
        }
        if (!has(keptImages, i)) {
            return NOT;
        }
        now.copyFrom(image(i));
        return 1;
    }

    private static boolean isImage(int i) {
        return i == 0 || i == 1;
    }

    private Days image(int i) {
        return i == 0 ? firstImage : secondImage;
    }

    private static int bit(int k) {
        return 1 << k;
    }

    private static boolean has(int set, int k) {
        return (set & bit(k)) != 0;
    }

    /** Where a row of numbers, one for each TRAVELLER at each BRIDGE, holds the one of t at b. */
    private static int slot(int b, int t) {
        return b * MEN_MOST + t;
    }

    /** THE HILLS as a text told them. */
    private static final class Land {
        private static final int YEAR_UNTOLD = 10;

        int year;
        int bridges;
        int men;
        int oxen;
        final int[] forgets = new int[BRIDGES_MOST];
        final int[] weight = new int[MEN_MOST];
        final int[] chance = new int[MEN_MOST];
        final int[] knowsAtFirst = new int[MEN_MOST];
        final int[] oxWeight = new int[OXEN_MOST];
        final int[] oxPrice = new int[OXEN_MOST];

        Land() {
            clear();
        }

        void clear() {
            year = YEAR_UNTOLD;
            bridges = 0;
            men = 0;
            oxen = 0;
        }

        void copyFrom(Land other) {
            year = other.year;
            bridges = other.bridges;
            men = other.men;
            oxen = other.oxen;
            System.arraycopy(other.forgets, 0, forgets, 0, BRIDGES_MOST);
            System.arraycopy(other.weight, 0, weight, 0, MEN_MOST);
            System.arraycopy(other.chance, 0, chance, 0, MEN_MOST);
            System.arraycopy(other.knowsAtFirst, 0, knowsAtFirst, 0, MEN_MOST);
            System.arraycopy(other.oxWeight, 0, oxWeight, 0, OXEN_MOST);
            System.arraycopy(other.oxPrice, 0, oxPrice, 0, OXEN_MOST);
        }

        void addBridge(int days) {
            if (bridges < BRIDGES_MOST) {
                forgets[bridges] = days;
                bridges++;
            }
        }

        void addMan(int manWeight, int manChance) {
            if (men < MEN_MOST) {
                weight[men] = manWeight;
                chance[men] = manChance;
                knowsAtFirst[men] = 0;
                men++;
            }
        }

        void addOx(int itsWeight, int itsPrice) {
            if (oxen < OXEN_MOST) {
                oxWeight[oxen] = itsWeight;
                oxPrice[oxen] = itsPrice;
                oxen++;
            }
        }

        boolean hasBridge(int b) {
            return b >= 0 && b < bridges;
        }

        boolean hasMan(int t) {
            return t >= 0 && t < men;
        }

        boolean hasOx(int o) {
            return o >= 0 && o < oxen;
        }

        boolean arePair(int t, int u) {
            return hasMan(t) && hasMan(u) && t != u;
        }

        boolean mayName(int t, int u) {
            return u == NONE ? hasMan(t) : arePair(t, u);
        }

        int everybody() {
            return bit(men) - 1;
        }

        int yearOf(int day) {
            return year < 1 ? 0 : day / year;
        }

        /** Those who are heavier than a WEIGHT. */
        int heavierThan(int bound) {
            int set = 0;
            for (int u = 0; u < men; u++) {
                if (weight[u] > bound) {
                    set |= bit(u);
                }
            }
            return set;
        }

        int heaviestOx(int set) {
            int heaviest = 0;
            for (int o = 0; o < oxen; o++) {
                if (has(set, o)) {
                    heaviest = Math.max(heaviest, oxWeight[o]);
                }
            }
            return heaviest;
        }

        int priceOf(int set) {
            int price = 0;
            for (int o = 0; o < oxen; o++) {
                if (has(set, o)) {
                    price += oxPrice[o];
                }
            }
            return price;
        }

        /** Of a SET the one with the greatest Q, of like ones the least. */
        int likeliest(int set) {
            int best = NONE;
            for (int u = 0; u < men; u++) {
                if (has(set, u) && (best == NONE || chance[u] > chance[best])) {
                    best = u;
                }
            }
            return best;
        }

        int oddsOf(int set) {
            long odds = BILLION;
            for (int u = 0; u < men; u++) {
                if (has(set, u)) {
                    odds = odds * chance[u] / 100;
                }
            }
            return (int) odds;
        }
    }

    /** THE TEXT, and how it is read clause by clause up to the first FAULT. */
    private static final class Reader {
        private static final int CANNOT_STAND = 1;
        private static final int OUT_OF_BOUNDS = 2;
        private static final int ONE_TOO_MANY = 3;
        private static final int KNOWN_ALREADY = 4;

        private static final int NO_CLAUSE = 0;
        private static final int YEAR = 1;
        private static final int BRIDGE = 2;
        private static final int MAN = 3;
        private static final int KNOWS = 4;
        private static final int OX = 5;

        final byte[] bytes = new byte[TEXT_MOST];
        int length = 0;
        int faultPlace = NONE;
        private int faultNumber = 0;
        private int at = 0;
        private int numberPlace = 0;
        private int yearClauses = 0;
        private int knowsClauses = 0;
        private int otherClauses = 0;

        int add(int n, long lowest) {
            for (int k = n - 1; k >= 0 && length < TEXT_MOST; k--) {
                bytes[length] = (byte) (lowest >> (8 * k));
                length++;
            }
            return length;
        }

        /** The number of the FAULT, 0 if there is none; what a text with a FAULT leaves in the draft is of no use. */
        int readInto(Land draft) {
            draft.clear();
            at = 0;
            faultNumber = 0;
            faultPlace = NONE;
            yearClauses = 0;
            knowsClauses = 0;
            otherClauses = 0;
            skipBlanks();
            for (int k = 0; k < length && at < length && faultNumber == 0; k++) {
                readClause(draft);
                skipBlanks();
            }
            return faultNumber;
        }

        private void readClause(Land draft) {
            int start = at;
            int end = endOfWord();
            int clause = clauseOf(start, end);
            int number = whyNot(clause, draft);
            if (number != 0) {
                blame(number, start);
                return;
            }
            at = end;
            switch (clause) {
                case YEAR: readYear(draft); break;
                case BRIDGE: readBridge(draft); break;
                case MAN: readMan(draft); break;
                case KNOWS: readKnows(draft); break;
                default: readOx(draft); break;
            }
        }

        private int clauseOf(int start, int end) {
            if (isWord("year", start, end)) {
                return YEAR;
            }
            if (isWord("bridge", start, end)) {
                return BRIDGE;
            }
            if (isWord("man", start, end)) {
                return MAN;
            }
            if (isWord("knows", start, end)) {
                return KNOWS;
            }
            return isWord("ox", start, end) ? OX : NO_CLAUSE;
        }

        /** The FAULT that a clause's word has, 0 if it may stand. */
        private int whyNot(int clause, Land draft) {
            switch (clause) {
                case YEAR:
                    // A 'year' again right behind 'year' is told as that; behind another clause it cannot stand at all.
                    return otherClauses > 0 ? CANNOT_STAND : overMost(yearClauses, 1);
                case BRIDGE: return overMost(draft.bridges, BRIDGES_MOST);
                case MAN: return overMost(draft.men, MEN_MOST);
                case KNOWS: return overMost(knowsClauses, KNOWS_MOST);
                case OX: return overMost(draft.oxen, OXEN_MOST);
                default: return CANNOT_STAND;
            }
        }

        private static int overMost(int count, int bound) {
            return count < bound ? 0 : ONE_TOO_MANY;
        }

        private void readYear(Land draft) {
            yearClauses++;
            int days = number(1, 99);
            endClause();
            draft.year = days;
        }

        private void readBridge(Land draft) {
            otherClauses++;
            int days = number(0, 9);
            endClause();
            draft.addBridge(days);
        }

        private void readMan(Land draft) {
            otherClauses++;
            int weight = number(1, 999);
            int chance = number(0, 100);
            endClause();
            draft.addMan(weight, chance);
        }

        private void readOx(Land draft) {
            otherClauses++;
            int weight = number(1, 999);
            int price = number(0, 999);
            endClause();
            draft.addOx(weight, price);
        }

        private void readKnows(Land draft) {
            otherClauses++;
            knowsClauses++;
            int a = number(0, draft.men - 1);
            boolean more = faultNumber == 0;
            for (int k = 0; k < length && more; k++) {
                int b = number(0, draft.men - 1);
                if (faultNumber == 0) {
                    readKnown(draft, a, b);
                }
                more = takes(',');
            }
            endClause();
        }

        private void readKnown(Land draft, int a, int b) {
            if (!draft.hasMan(a)) {
                return;
            }
            if (a == b || has(draft.knowsAtFirst[a], b)) {
                blame(KNOWN_ALREADY, numberPlace);
            } else {
                draft.knowsAtFirst[a] |= bit(b);
            }
        }

        /** The NUMBER that comes next; 0 with a FAULT, if none does or it is out of its bounds. */
        private int number(int least, int greatest) {
            if (faultNumber != 0) {
                return 0;
            }
            skipBlanks();
            numberPlace = at;
            int value = 0;
            for (; at < length && isFigure(bytes[at]); at++) {
                // The fourth figure is a FAULT of its own, so that no longer value is needed.
                value = at - numberPlace < 3 ? 10 * value + bytes[at] - '0' : value;
            }
            int figures = at - numberPlace;
            if (figures == 0) {
                blame(CANNOT_STAND, numberPlace);
            } else if (figures > 3 || value < least || value > greatest) {
                blame(OUT_OF_BOUNDS, numberPlace);
            }
            return faultNumber == 0 ? value : 0;
        }

        private void endClause() {
            if (faultNumber == 0 && !takes(';')) {
                blame(CANNOT_STAND, at);
            }
        }

        /** Goes past a sign, if it comes next; else stands at what does. */
        private boolean takes(char sign) {
            if (faultNumber != 0) {
                return false;
            }
            skipBlanks();
            if (at < length && bytes[at] == sign) {
                at++;
                return true;
            }
            return false;
        }

        private void skipBlanks() {
            while (at < length && bytes[at] == ' ') {
                at++;
            }
        }

        private int endOfWord() {
            int end = at;
            while (end < length && bytes[end] >= 'a' && bytes[end] <= 'z') {
                end++;
            }
            return end;
        }

        private boolean isWord(String word, int start, int end) {
            if (end - start != word.length() || start < 0 || end > length) {
                return false;
            }
            for (int k = 0; k < word.length(); k++) {
                if (bytes[start + k] != word.charAt(k)) {
                    return false;
                }
            }
            return true;
        }

        private static boolean isFigure(byte sign) {
            return sign >= '0' && sign <= '9';
        }

        private void blame(int number, int place) {
            faultNumber = number;
            faultPlace = place;
        }
    }

    /** What the days change, and what an IMAGE keeps of it. */
    private static final class Days {
        private static final int SLOTS = BRIDGES_MOST * MEN_MOST;

        private final Land land;
        int lives = 0;
        int day = 0;
        int seed = 0;
        final int[] knows = new int[MEN_MOST];
        final int[] over = new int[BRIDGES_MOST];
        final int[] nameBy = new int[SLOTS];
        private final int[] lieDay = new int[SLOTS];
        private final int[] aloneYear = new int[SLOTS];

        Days(Land land) {
            this.land = land;
            forget();
        }

        /** THE HILLS are new: all is at its beginning but THE SEED, which stays. */
        void begin() {
            forget();
            lives = land.everybody();
            day = 0;
            System.arraycopy(land.knowsAtFirst, 0, knows, 0, MEN_MOST);
        }

        private void forget() {
            for (int b = 0; b < BRIDGES_MOST; b++) {
                over[b] = 0;
            }
            for (int k = 0; k < SLOTS; k++) {
                nameBy[k] = NONE;
                lieDay[k] = NONE;
                aloneYear[k] = NONE;
            }
        }

        void copyFrom(Days other) {
            lives = other.lives;
            day = other.day;
            seed = other.seed;
            System.arraycopy(other.knows, 0, knows, 0, MEN_MOST);
            System.arraycopy(other.over, 0, over, 0, BRIDGES_MOST);
            System.arraycopy(other.nameBy, 0, nameBy, 0, SLOTS);
            System.arraycopy(other.lieDay, 0, lieDay, 0, SLOTS);
            System.arraycopy(other.aloneYear, 0, aloneYear, 0, SLOTS);
        }

        /** Who lives and is not OVER a BRIDGE. */
        int toCome(int b) {
            return lives & ~over[b];
        }

        boolean isRemembered(int b, int t) {
            int lied = lieDay[slot(b, t)];
            return lied != NONE && (land.forgets[b] == 0 || day - lied <= land.forgets[b]);
        }

        int allRemembered(int b) {
            int set = 0;
            for (int t = 0; t < land.men; t++) {
                if (isRemembered(b, t)) {
                    set |= bit(t);
                }
            }
            return set;
        }

        /** Whether one would be LET GO now, if he NAMES nobody. */
        boolean goesAlone(int b, int t) {
            int asHeavy = land.heavierThan(land.weight[t] - 1) & ~bit(t);
            return (asHeavy & lives) == 0 && aloneYear[slot(b, t)] != land.yearOf(day);
        }

        /** Of those whom one knows of, those by whom he would be LET GO now. */
        int helpers(int b, int t) {
            return isRemembered(b, t) ? 0 : knows[t] & land.heavierThan(land.weight[t]) & toCome(b);
        }

        /** TO CROSS, by one who lives and is not OVER, NAMING one whom he knows of or nobody. */
        int go(int b, int t, int u) {
            boolean letGo = u == NONE ? goesAlone(b, t) : has(helpers(b, t), u);
            if (!letGo) {
                lives &= ~bit(t);
                return 0;
            }
            over[b] |= bit(t);
            nameBy[slot(b, t)] = u;
            if (u == NONE) {
                aloneYear[slot(b, t)] = land.yearOf(day);
            }
            return 1;
        }

        int endDay() {
            int liars = 0;
            for (int b = 0; b < land.bridges; b++) {
                int liedHere = liarsAt(b);
                for (int t = 0; t < land.men; t++) {
                    if (has(liedHere, t)) {
                        lieDay[slot(b, t)] = day;
                    }
                }
                liars |= liedHere;
            }
            for (int b = 0; b < land.bridges; b++) {
                over[b] = 0;
            }
            day++;
            return liars;
        }

        private int liarsAt(int b) {
            int set = 0;
            for (int t = 0; t < land.men; t++) {
                int u = nameBy[slot(b, t)];
                if (has(over[b], t) && u != NONE && !has(over[b], u)) {
                    set |= bit(t);
                }
            }
            return set;
        }

        /** Those LET GO today at two BRIDGES by unlike NAMES. */
        int saidUnlike() {
            int set = 0;
            for (int b = 0; b < land.bridges; b++) {
                for (int c = 0; c < b; c++) {
                    for (int t = 0; t < land.men; t++) {
                        if (has(over[b] & over[c], t) && nameBy[slot(b, t)] != nameBy[slot(c, t)]) {
                            set |= bit(t);
                        }
                    }
                }
            }
            return set;
        }

        /** Those LET GO today by a NAME that lives no more. */
        int saidTheDead() {
            int set = 0;
            for (int b = 0; b < land.bridges; b++) {
                for (int t = 0; t < land.men; t++) {
                    int u = nameBy[slot(b, t)];
                    if (has(over[b], t) && u != NONE && !has(lives, u)) {
                        set |= bit(t);
                    }
                }
            }
            return set;
        }

        /** One DAY BY DRAWS. */
        void drawDay() {
            for (int t = 0; t < land.men; t++) {
                if (has(lives, t) && draw(100) < land.chance[t]) {
                    drawCrossing(t);
                }
            }
            endDay();
        }

        private void drawCrossing(int t) {
            int b = draw(land.bridges);
            int u = draw(land.men);
            if (land.hasBridge(b) && !has(over[b], t)) {
                go(b, t, has(knows[t], u) ? u : NONE);
            }
        }

        private int draw(int n) {
            seed = (int) ((seed * 1103515245L + 12345L) & 0x7fffffffL);
            return n < 1 ? 0 : seed / 65536 % n;
        }
    }

    /** What is TRIED for a BRIDGE, from now on this DAY. */
    private static final class Trial {
        private final Land land;
        private final Days now;
        /** All who live and are not OVER the BRIDGE that is looked at. */
        private int all = 0;
        /** Those of all who go alone. */
        private int alone = 0;
        /** Those of all who are not REMEMBERED, so that a NAME helps them. */
        private int trusted = 0;
        /** For each TRAVELLER by whom he would be LET GO. */
        private final int[] helpers = new int[MEN_MOST];
        /** The TRUE ROW of the latest lineUp. */
        final int[] line = new int[MEN_MOST];
        private int lineCount = 0;

        Trial(Land land, Days now) {
            this.land = land;
            this.now = now;
        }

        private void lookAt(int b) {
            all = now.toCome(b);
            alone = 0;
            trusted = 0;
            for (int t = 0; t < land.men; t++) {
                helpers[t] = now.helpers(b, t);
                alone |= has(all, t) && now.goesAlone(b, t) ? bit(t) : 0;
                trusted |= has(all, t) && !now.isRemembered(b, t) ? bit(t) : 0;
            }
        }

        /** Puts MOST into the line: how many. */
        int lineUp(int b) {
            lookAt(b);
            int left = mostSet();
            lineCount = 0;
            for (int k = 0; k < MEN_MOST && left != 0; k++) {
                int next = nextInLine(left);
                if (next == NONE) {
                    break;
                }
                line[k] = next;
                lineCount = k + 1;
                left &= ~bit(next);
            }
            return lineCount;
        }

        /**
         * The SET of the greatest TRUE ROW. A SET can be in one, if each of it goes alone or can
         * NAME one of it: the lighter go ahead. Who can do neither among all that are left is in no TRUE ROW.
         */
        private int mostSet() {
            int set = all;
            for (int k = 0; k < MEN_MOST; k++) {
                set = passing(set);
            }
            return set;
        }

        /** Those of a SET who go alone or can NAME one of it. */
        private int passing(int set) {
            int able = 0;
            for (int t = 0; t < land.men; t++) {
                if (has(set, t) && passes(t, set)) {
                    able |= bit(t);
                }
            }
            return able;
        }

        private boolean passes(int t, int set) {
            return has(alone, t) || (helpers[t] & set) != 0;
        }

        /** The least who can go ahead of all others that are left, so that they still can be in a TRUE ROW. */
        private int nextInLine(int left) {
            for (int t = 0; t < land.men; t++) {
                int rest = left & ~bit(t);
                if (has(left, t) && passes(t, rest) && passing(rest) == rest) {
                    return t;
                }
            }
            return NONE;
        }

        /** Whom the i-th of the latest line NAMES. */
        int nameInLine(int i) {
            if (i < 0 || i >= lineCount || has(alone, line[i])) {
                return NONE;
            }
            int behind = 0;
            for (int k = i + 1; k < lineCount; k++) {
                behind |= bit(line[k]);
            }
            for (int u = 0; u < land.men; u++) {
                if (has(helpers[line[i]] & behind, u)) {
                    return u;
                }
            }
            return NONE;
        }

        /** TOLD OF: whom no one helps yet is told of one who is heavier; that is enough. */
        int fewestTold(int b) {
            lookAt(b);
            int pairs = 0;
            for (int t = 0; t < land.men; t++) {
                if (has(all, t) && !passes(t, all)) {
                    if (!has(trusted, t) || (land.heavierThan(land.weight[t]) & all) == 0) {
                        return NONE;
                    }
                    pairs++;
                }
            }
            return pairs;
        }

        /** HIRED: the SET of OXEN, NONE if none does. */
        int cheapestOxen(int b) {
            lookAt(b);
            int best = NONE;
            for (int set = 0; set < bit(land.oxen); set++) {
                boolean better = best == NONE || land.priceOf(set) < land.priceOf(best);
                if (better && allPassBefore(set)) {
                    best = set;
                }
            }
            return best;
        }

        private boolean allPassBefore(int oxen) {
            int heaviest = land.heaviestOx(oxen);
            for (int t = 0; t < land.men; t++) {
                boolean byOx = has(trusted, t) && heaviest > land.weight[t];
                if (has(all, t) && !byOx && !passes(t, all)) {
                    return false;
                }
            }
            return true;
        }
    }

    /** What was SEEN: for each TRAVELLER those who are ahead of him in all ORDERS, by one sight each. */
    private static final class Sights {
        int count = 0;
        private final int[] ahead = new int[MEN_MOST];
        /** For each SET how many ORDERS of it alone fit. */
        private final int[] ways = new int[1 << MEN_MOST];

        int add(int lighter, int heavy) {
            if (heavy >= 0 && heavy < MEN_MOST && count < SEEN_MOST) {
                ahead[heavy] |= bit(lighter);
                count++;
            }
            return count;
        }

        void clear() {
            count = 0;
            for (int t = 0; t < MEN_MOST; t++) {
                ahead[t] = 0;
            }
        }

        int countOrders(int men) {
            int sets = bit(Math.min(men, MEN_MOST));
            ways[0] = 1;
            for (int set = 1; set < sets; set++) {
                ways[set] = 0;
                for (int last = 0; last < MEN_MOST; last++) {
                    int rest = set & ~bit(last);
                    if (rest != set && (ahead[last] & ~rest) == 0) {
                        ways[set] += ways[rest];
                    }
                }
            }
            return ways[sets - 1];
        }

        /** Who is behind one in all ORDERS: no ORDER that fits has him ahead. */
        int alwaysBehind(int t, int men) {
            if (t < 0 || t >= MEN_MOST || countOrders(men) == 0) {
                return 0;
            }
            int set = 0;
            int seenAhead = ahead[t];
            for (int u = 0; u < men; u++) {
                ahead[t] = seenAhead | bit(u);
                if (u != t && countOrders(men) == 0) {
                    set |= bit(u);
                }
            }
            ahead[t] = seenAhead;
            return set;
        }
    }

    /** THE ROW. */
    private static final class Queue {
        int count = 0;
        private final int[] who = new int[ROW_MOST];
        private final int[] nameBy = new int[ROW_MOST];

        int add(int t, int u) {
            if (count < ROW_MOST) {
                who[count] = t;
                nameBy[count] = u;
                count++;
            }
            return count;
        }

        void clear() {
            count = 0;
        }

        int allNamed() {
            int set = 0;
            for (int i = 0; i < count; i++) {
                if (nameBy[i] != NONE) {
                    set |= bit(nameBy[i]);
                }
            }
            return set;
        }

        int firstWrong(Days now, int b) {
            int eaten = firstEaten(now, b);
            return eaten == NONE ? firstLiar() : eaten;
        }

        /** The first who would not be LET GO; up to him nobody is EATEN, so that only who is OVER changes. */
        private int firstEaten(Days now, int b) {
            int toCome = now.toCome(b);
            for (int i = 0; i < count; i++) {
                boolean letGo = nameBy[i] == NONE
                        ? now.goesAlone(b, who[i])
                        : has(now.helpers(b, who[i]) & toCome, nameBy[i]);
                if (!has(toCome, who[i]) || !letGo) {
                    return i;
                }
                toCome &= ~bit(who[i]);
            }
            return NONE;
        }

        private int firstLiar() {
            int behind = 0;
            int first = NONE;
            for (int i = count - 1; i >= 0; i--) {
                if (nameBy[i] != NONE && !has(behind, nameBy[i])) {
                    first = i;
                }
                behind |= bit(who[i]);
            }
            return first;
        }
    }
}
