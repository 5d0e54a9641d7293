public final class Promise15NamesTest {
    public static void main(String[] args) {
        HeavierToCome x = Check.made(Check.HILLS);
        due("0, 1, 2, 3", x, 0, 1, 3, 3, Check.NONE);
        x.know(4, 3, true);
        due("0, 1, 2, 4, 3", x, 0, 1, 3, 3, 3, Check.NONE);
        x.know(0, 1, false);
        due("0 knows of 2 alone", x, 0, 2, 3, 3, 3, Check.NONE);
        theLeast();
        nobody();
        ofThisDay();
        refusals();
        Check.end("promise 15");
    }

    private static void due(String why, HeavierToCome x, int b, int... named) {
        for (int i = 0; i < named.length; i++) {
            Check.due(why + ": names(" + b + ", " + i + ")", x.names(b, i), named[i]);
        }
        for (int i = named.length; i < 8; i++) {
            Check.due(why + ": names(" + b + ", " + i + ")", x.names(b, i), Check.OUTSIDE);
        }
    }

    /** The least who is behind in the row, heavier and known. */
    private static void theLeast() {
        // The row: 0, 2, 1.
        due("0 is ahead of 2", Check.made("bridge 1;man 6 0;man 7 0;man 5 0;knows 0 1;knows 2 0,1;"), 0, 1, 1, Check.NONE);
        // The row: 2, 0, 1.
        due("0 is behind 2", Check.made("bridge 1;man 6 0;man 7 0;man 5 0;knows 0 1;knows 2 0;"), 0, 0, 1, Check.NONE);
        // The row: 1, 2, 0, 3: 1 knows of 0, 2 and 3, of whom 2 is lighter.
        due("a lighter one is not NAMED", Check.made("bridge 1;man 6 0;man 4 0;man 3 0;man 9 0;"
                + "knows 0 3;knows 1 2,3;knows 2 0;"), 0, 3, 0, 3, Check.NONE);
        // The row: 0, 1, 2, for 3 drops out.
        due("one who drops out is not NAMED", Check.made("bridge 1;man 1 0;man 8 0;man 9 0;man 5 0;"
                + "knows 0 3,2;knows 1 2;"), 0, 2, 2, Check.NONE);
    }

    /** Who may go alone NAMES nobody; there is nobody heavier either. */
    private static void nobody() {
        due("the only one", Check.made("bridge 1;man 6 0;"), 0, Check.NONE);
        due("no row", Check.made("bridge 1;man 6 0;man 6 0;knows 0 1;"), 0);
        due("no TRAVELLERS", Check.made("bridge 1;"), 0);
    }

    private static void ofThisDay() {
        HeavierToCome x = Check.made(Check.HILLS);
        x.cross(0, 1, 3);
        due("1 is OVER: 0, 2, 3", x, 0, 2, 3, Check.NONE);
        due("but not over 1", x, 1, 1, 3, 3, Check.NONE);
        x.cross(1, 2, -1);
        due("2 lives no more: 3 alone, for 0 knows of 1 and 2", x, 0, Check.NONE);
    }

    private static void refusals() {
        HeavierToCome x = Check.made(Check.HILLS);
        Check.refused(x, "names(2, 0)", () -> x.names(2, 0), Check.UNKNOWN);
        Check.refused(x, "names(-1, 0)", () -> x.names(-1, 0), Check.UNKNOWN);
        Check.refused(x, "names(2, 9)", () -> x.names(2, 9), Check.UNKNOWN);
        Check.refused(x, "names(0, 4)", () -> x.names(0, 4), Check.OUTSIDE);
        Check.refused(x, "names(0, -1)", () -> x.names(0, -1), Check.OUTSIDE);
        for (int out : Check.FAR_OUT) {
            Check.due("names(" + out + ", 0)", x.names(out, 0), Check.UNKNOWN);
            Check.due("names(0, " + out + ")", x.names(0, out), Check.OUTSIDE);
        }
    }
}
