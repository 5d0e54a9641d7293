/** The terms' first lines: numbers from 0 on, whole numbers that are cut, SETS, how far down the REFUSALS are. */
public final class TermsNumbersTest {
    public static void main(String[] args) {
        bridgesFromZero();
        travellersFromZero();
        oxenFromZero();
        imagesFromZero();
        placesFromZero();
        sets();
        cutTowardsZero();
        billion();
        farBelow();
        Check.end("terms, numbers");
    }

    /** "What has a number has it from 0 on, as it comes." */
    private static void bridgesFromZero() {
        String[] clauses = {"bridge 7;", "bridge 0;", "bridge 9;", "bridge 1;", "bridge 5;"};
        int[] forgets = {7, 0, 9, 1, 5};
        StringBuilder text = new StringBuilder();
        for (int count = 0; count <= 5; count++) {
            HeavierToCome x = Check.made(text.toString());
            Check.due("told(1)", x.told(1), count);
            Check.due("bridge(-1, 0)", x.bridge(-1, 0), Check.UNKNOWN);
            for (int b = 0; b < count; b++) {
                Check.due("bridge(" + b + ", 0) of " + count, x.bridge(b, 0), forgets[b]);
            }
            Check.due("bridge(" + count + ", 0) of " + count, x.bridge(count, 0), Check.UNKNOWN);
            text.append(count < 5 ? clauses[count] : "");
        }
    }

    private static void travellersFromZero() {
        StringBuilder text = new StringBuilder("bridge 1;");
        for (int count = 0; count <= 6; count++) {
            HeavierToCome x = Check.made(text.toString());
            Check.due("told(2)", x.told(2), count);
            Check.due("man(-1, 0)", x.man(-1, 0), Check.UNKNOWN);
            for (int t = 0; t < count; t++) {
                Check.due("man(" + t + ", 0) of " + count, x.man(t, 0), 600 - t);
                Check.due("man(" + t + ", 1) of " + count, x.man(t, 1), 10 + t);
            }
            Check.due("man(" + count + ", 0) of " + count, x.man(count, 0), Check.UNKNOWN);
            Check.due("heavier(" + count + ") of " + count, x.heavier(count), Check.UNKNOWN);
            Check.due("row(" + count + ", NONE) of " + count, x.row(count, Check.NONE), Check.UNKNOWN);
            Check.due("whom(0, " + count + ") of " + count, x.whom(0, count), Check.UNKNOWN);
            text.append("man ").append(600 - count).append(' ').append(10 + count).append(';');
        }
    }

    private static void oxenFromZero() {
        StringBuilder text = new StringBuilder();
        for (int count = 0; count <= 5; count++) {
            HeavierToCome x = Check.made(text.toString());
            Check.due("told(3)", x.told(3), count);
            Check.due("ox(-1, 0)", x.ox(-1, 0), Check.UNKNOWN);
            for (int o = 0; o < count; o++) {
                Check.due("ox(" + o + ", 0) of " + count, x.ox(o, 0), 700 - o);
                Check.due("ox(" + o + ", 1) of " + count, x.ox(o, 1), 20 + o);
            }
            Check.due("ox(" + count + ", 0) of " + count, x.ox(count, 0), Check.UNKNOWN);
            text.append("ox ").append(700 - count).append(' ').append(20 + count).append(';');
        }
    }

    /** IMAGES 0, 1. */
    private static void imagesFromZero() {
        HeavierToCome x = Check.made(Check.HILLS);
        Check.due("keep(-1)", x.keep(-1), Check.UNKNOWN);
        Check.due("keep(0)", x.keep(0), 1);
        Check.due("keep(1)", x.keep(1), 1);
        Check.due("keep(2)", x.keep(2), Check.UNKNOWN);
        Check.due("goBack(-1)", x.goBack(-1), Check.UNKNOWN);
        Check.due("goBack(0)", x.goBack(0), 1);
        Check.due("goBack(1)", x.goBack(1), 1);
        Check.due("goBack(2)", x.goBack(2), Check.UNKNOWN);
    }

    /** The bytes of THE TEXT, the places of THE ROW and of MOST. */
    private static void placesFromZero() {
        Check.faulty("!", 1, 0);
        Check.faulty(" !", 1, 1);
        HeavierToCome x = Check.made("bridge 1;man 9 0;man 5 0;knows 1 0;");
        x.row(0, 1);
        Check.due("wrong(0): the first is 0", x.wrong(0), 0);
        Check.due("most(0, 0)", x.most(0, 0), 1);
        Check.due("most(0, 1)", x.most(0, 1), 0);
        Check.due("most(0, 2)", x.most(0, 2), Check.NONE);
    }

    /** "A SET is a whole number, bit k for k (of TRAVELLERS, if nothing else is told)." */
    private static void sets() {
        for (int k = 0; k < 6; k++) {
            StringBuilder text = new StringBuilder("bridge 0;");
            for (int t = 0; t < 6; t++) {
                text.append(t == k ? "man 2 0;" : "man 1 0;");
            }
            HeavierToCome x = Check.made(text.toString());
            int other = k == 0 ? 1 : 0;
            Check.due("told(6): all", x.told(6), 63);
            x.know(other, k, true);
            Check.due("man(other, 3) of " + k, x.man(other, 3), 1 << k);
            x.see(other, k, true);
            Check.due("heavier(other) of " + k, x.heavier(other), 1 << k);
            x.cross(0, k, Check.NONE);
            Check.due("bridge(0, 1) of " + k, x.bridge(0, 1), 1 << k);
            x.evening();
            x.cross(0, other, k);
            Check.due("evening() of " + other, x.evening(), 1 << other);
            Check.due("bridge(0, 2) of " + other, x.bridge(0, 2), 1 << other);
            for (int t = 0; t < 6; t++) {
                x.cross(0, t == k ? other : t, Check.NONE);
            }
            Check.due("told(6): " + k + " lives", x.told(6), 1 << k);
        }
        String oxen = "ox 4 0;ox 4 0;ox 4 0;ox 4 0;ox 4 0;";
        for (int o = 0; o < 5; o++) {
            String heavier = oxen.substring(0, 7 * o) + "ox 6 7;" + oxen.substring(7 * o + 7);
            HeavierToCome x = Check.made("bridge 1;man 5 0;man 5 0;" + heavier);
            Check.due("hired(0, 1): the OX " + o, x.hired(0, 1), 1 << o);
        }
    }

    /** "All numbers are whole; / cuts towards 0": 11859210 * 33 / 100 is 3913539.3, 3913539 * 33 / 100 is 1291467.87. */
    private static void cutTowardsZero() {
        HeavierToCome x = Check.made("man 1 33;man 1 33;man 1 33;man 1 33;man 1 33;man 1 33;");
        int[] due = {330000000, 108900000, 35937000, 11859210, 3913539, 1291467};
        for (int u = 0; u < 6; u++) {
            x.row(u == 0 ? 1 : 0, u);
            Check.due("odds() of " + (u + 1), x.odds(), due[u]);
        }
    }

    /** "BILLION is 1000000000." */
    private static void billion() {
        HeavierToCome x = Check.made("man 1 100;man 1 99;man 1 1;");
        Check.due("odds() of none", x.odds(), 1000000000);
        x.row(1, 0);
        Check.due("odds() of 100", x.odds(), 1000000000);
        x.tear();
        x.row(0, 1);
        Check.due("odds() of 99", x.odds(), 990000000);
        x.tear();
        x.row(0, 2);
        Check.due("odds() of 1", x.odds(), 10000000);
    }

    /** "They are far below all that is counted: -1000000001 and on." */
    private static void farBelow() {
        int[] refusals = {HeavierToCome.UNKNOWN, HeavierToCome.OUTSIDE, HeavierToCome.NOT, HeavierToCome.FULL};
        for (int k = 0; k < refusals.length; k++) {
            Check.due("REFUSAL " + k, refusals[k], -1000000001 - k);
        }
        Check.due("NONE", HeavierToCome.NONE, -1);
    }
}
