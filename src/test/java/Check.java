import java.util.function.IntSupplier;

/** What the tests of the promises share: making objects from texts, comparing, ending. */
final class Check {
    /** 5 TRAVELLERS of 50, 70, 60, 90, 70; BRIDGE 0 forgets behind 2 days, BRIDGE 1 never. */
    static final String HILLS = "year 3;bridge 2;bridge 0;"
            + "man 50 90;man 70 50;man 60 80;man 90 20;man 70 100;"
            + "knows 0 2,1;knows 2 3;knows 1 3,4;knows 4 1;"
            + "ox 100 30;ox 80 10;ox 75 9;";

    /** As many as may be: 6 TRAVELLERS, each heavier than those ahead, who know of the next and of 5; 5 BRIDGES, 5 OXEN. */
    static final String MOST_HILLS = "year 2;bridge 0;bridge 1;bridge 2;bridge 3;bridge 9;"
            + "man 10 100;man 20 100;man 30 100;man 40 100;man 50 100;man 60 100;"
            + "knows 0 1,5;knows 1 2,5;knows 2 3,5;knows 3 4,5;knows 4 5;"
            + "ox 100 5;ox 100 4;ox 100 3;ox 100 2;ox 61 1;";

    static final int NONE = -1;
    static final int UNKNOWN = -1000000001;
    static final int OUTSIDE = -1000000002;
    static final int NOT = -1000000003;
    static final int FULL = -1000000004;

    /** What no call can be given but by a mistake. */
    static final int[] FAR_OUT = {-2, -1000000001, Integer.MIN_VALUE, 6, 7, 31, 32, 33, 100, 1000000, Integer.MAX_VALUE};

    private static int compared = 0;
    private static int wrong = 0;

    private Check() {
    }

    static void due(String call, long got, long want) {
        compared++;
        if (got != want) {
            wrong++;
            if (wrong <= 20) {
                System.out.println(call + " answered " + got + ", due is " + want);
            }
        }
    }

    static void due(String call, String got, String want) {
        compared++;
        if (!got.equals(want)) {
            wrong++;
            if (wrong <= 20) {
                System.out.println(call + " answered " + got + ", due is " + want);
            }
        }
    }

    /** A call that is refused: the answer, and that it changes nothing. */
    static void refused(HeavierToCome x, String call, IntSupplier answer, int want) {
        String before = seen(x);
        due(call, answer.getAsInt(), want);
        due("what is so behind " + call, seen(x), before);
    }

    /** Ends a test: exit code 1, if an answer was not as due (or none was compared). */
    static void end(String test) {
        System.out.println(test + ": " + compared + " answers compared, " + wrong + " wrong");
        if (wrong != 0 || compared == 0) {
            System.exit(1);
        }
    }

    static void feed(HeavierToCome x, String text) {
        for (int from = 0; from < text.length(); from += 8) {
            int to = Math.min(text.length(), from + 8);
            long bytes = 0;
            for (int k = from; k < to; k++) {
                bytes = bytes << 8 | text.charAt(k) & 255;
            }
            x.feed(to - from, bytes);
        }
    }

    /** A new object with these HILLS. */
    static HeavierToCome made(String text) {
        HeavierToCome x = new HeavierToCome();
        told(x, text);
        return x;
    }

    /** New HILLS for an object, from a text without a FAULT. */
    static void told(HeavierToCome x, String text) {
        feed(x, text);
        due("hills() of " + text, Math.min(0, x.hills()), 0);
        due("fault() of " + text, x.fault(), NONE);
    }

    /** A text with a FAULT: its number and its place. */
    static void faulty(String text, int number, int place) {
        HeavierToCome x = new HeavierToCome();
        feed(x, text);
        due("hills() of '" + text + "'", x.hills(), -10 - number);
        due("fault() of '" + text + "'", x.fault(), place);
    }

    /** A text without a FAULT: how many TRAVELLERS. */
    static void sound(String text, int travellers) {
        HeavierToCome x = new HeavierToCome();
        feed(x, text);
        due("hills() of '" + text + "'", x.hills(), travellers);
        due("fault() of '" + text + "'", x.fault(), NONE);
    }

    /** All that can be asked about the state in few calls (THE SEED is put back). */
    static String seen(HeavierToCome x) {
        StringBuilder all = new StringBuilder();
        for (int what = 0; what <= 8; what++) {
            all.append(x.told(what)).append(' ');
        }
        all.append(x.fault()).append(' ');
        for (int b = 0; b < x.told(1); b++) {
            all.append("b ").append(x.bridge(b, 1)).append(' ').append(x.bridge(b, 2)).append(' ').append(x.wrong(b)).append(' ');
            for (int t = 0; t < x.told(2); t++) {
                all.append(x.named(b, t)).append(' ');
            }
        }
        for (int t = 0; t < x.told(2); t++) {
            all.append(x.man(t, 3)).append(' ').append(x.heavier(t)).append(' ');
        }
        int seed = x.seed(0);
        x.seed(seed);
        return all.append(x.odds()).append(' ').append(seed).toString();
    }

    /** In MOST_HILLS 0 to 4 go over a BRIDGE by the NAME of 5. */
    static void crossNaming5(HeavierToCome x, int b) {
        for (int t = 0; t < 5; t++) {
            due("cross(" + b + ", " + t + ", 5)", x.cross(b, t, 5), 1);
        }
    }

    /** In MOST_HILLS 0 to 4 go over a BRIDGE, each by the NAME of the next. */
    static void crossNamingTheNext(HeavierToCome x, int b) {
        for (int t = 0; t < 5; t++) {
            due("cross(" + b + ", " + t + ", " + (t + 1) + ")", x.cross(b, t, t + 1), 1);
        }
    }

    /** In MOST_HILLS 5 is EATEN, for he NAMES one who is lighter. */
    static void eat5(HeavierToCome x, int b) {
        x.know(5, 0, true);
        due("cross(" + b + ", 5, 0)", x.cross(b, 5, 0), 0);
    }

    /** A SET of these. */
    static int set(int... members) {
        int set = 0;
        for (int k : members) {
            set |= 1 << k;
        }
        return set;
    }

    static String repeated(String part, int times) {
        return part.repeat(times);
    }
}
