public final class Promise29GoBackTest {
    public static void main(String[] args) {
        whatIsKept();
        namesAreKept();
        liesAndYears();
        whatIsNotKept();
        again();
        refusals();
        Check.end("promise 29");
    }

    /** Who lives, who knows of whom, THE DAY, who is OVER what by which NAME, THE SEED. */
    private static void whatIsKept() {
        HeavierToCome x = Check.made(Check.HILLS);
        x.evening();
        x.cross(0, 0, 2);
        x.cross(0, 3, -1);
        x.cross(1, 4, -1);
        x.know(2, 4, true);
        x.seed(44);
        x.keep(1);
        x.know(2, 4, false);
        x.know(4, 0, true);
        x.cross(1, 0, 1);
        x.cross(0, 1, -1);
        x.drift(5);
        x.seed(45);
        Check.due("goBack(1)", x.goBack(1), 1);
        Check.due("told(5)", x.told(5), 1);
        Check.due("told(6)", x.told(6), Check.set(0, 1, 2, 3));
        Check.due("bridge(0, 1)", x.bridge(0, 1), Check.set(0, 3));
        Check.due("bridge(1, 1)", x.bridge(1, 1), 0);
        Check.due("named(0, 0)", x.named(0, 0), 2);
        Check.due("named(0, 3)", x.named(0, 3), Check.NONE);
        Check.due("man(2, 3)", x.man(2, 3), Check.set(3, 4));
        Check.due("man(4, 3)", x.man(4, 3), Check.set(1));
        Check.due("seed(0)", x.seed(0), 44);
        Check.due("evening(): 0 LIED", x.evening(), Check.set(0));
    }

    /** He NAMED another one there on another DAY. */
    private static void namesAreKept() {
        HeavierToCome x = Check.made(Check.HILLS);
        x.cross(0, 0, 2);
        x.cross(0, 2, 3);
        x.keep(0);
        x.evening();
        x.cross(0, 0, 1);
        x.keep(1);
        Check.due("named(0, 0)", x.named(0, 0), 1);
        x.goBack(0);
        Check.due("named(0, 0) of IMAGE 0", x.named(0, 0), 2);
        Check.due("named(0, 2) of IMAGE 0", x.named(0, 2), 3);
        x.goBack(1);
        Check.due("named(0, 0) of IMAGE 1", x.named(0, 0), 1);
        Check.due("named(0, 2) of IMAGE 1", x.named(0, 2), Check.NOT);
    }

    /** LIES, who went by himself when. */
    private static void liesAndYears() {
        HeavierToCome x = Check.made("year 50;bridge 0;man 5 0;man 6 0;knows 0 1;");
        x.keep(0);
        x.cross(0, 0, 1);
        x.evening();
        x.cross(0, 1, -1);
        x.evening();
        x.keep(1);
        Check.due("bridge(0, 2)", x.bridge(0, 2), 1);
        x.goBack(0);
        Check.due("bridge(0, 2) ahead of the LIE", x.bridge(0, 2), 0);
        Check.due("1 goes alone", x.cross(0, 1, -1), 1);
        x.goBack(0);
        Check.due("1 goes alone, not yet OVER", x.cross(0, 1, -1), 1);
        x.goBack(1);
        Check.due("bridge(0, 2) behind the LIE", x.bridge(0, 2), 1);
        Check.due("told(5)", x.told(5), 2);
        Check.due("1 went alone in this YEAR", x.cross(0, 1, -1), 0);
        x.goBack(1);
        Check.due("0 is REMEMBERED", x.cross(0, 0, 1), 0);
    }

    private static void whatIsNotKept() {
        HeavierToCome x = Check.made(Check.HILLS);
        x.see(0, 1, true);
        x.row(0, 1);
        x.keep(0);
        x.see(1, 2, true);
        x.see(1, 3, true);
        x.row(2, 3);
        Check.feed(x, "goat");
        x.hills();
        x.feed(3, 0);
        Check.due("goBack(0)", x.goBack(0), 1);
        Check.due("what was SEEN stays", x.told(7), 3);
        Check.due("orders()", x.orders(), 10);
        Check.due("THE ROW stays", x.told(8), 2);
        Check.due("odds()", x.odds(), 100000000);
        Check.due("THE TEXT stays", x.told(4), 3);
        Check.due("fault() stays", x.fault(), 0);
    }

    /** An IMAGE stays what it is, whatever comes behind goBack. */
    private static void again() {
        HeavierToCome x = Check.made(Check.HILLS);
        x.cross(0, 0, 1);
        x.keep(0);
        String kept = Check.seen(x);
        for (int k = 0; k < 3; k++) {
            x.drift(3);
            x.know(0, 3, true);
            Check.due("goBack(0)", x.goBack(0), 1);
            Check.due("what is so", Check.seen(x), kept);
            x.cross(0, 1, 3);
            x.evening();
        }
    }

    private static void refusals() {
        HeavierToCome x = Check.made(Check.HILLS);
        x.cross(0, 0, 1);
        Check.refused(x, "goBack(0), not kept", () -> x.goBack(0), Check.NOT);
        Check.refused(x, "goBack(1), not kept", () -> x.goBack(1), Check.NOT);
        x.keep(1);
        Check.refused(x, "goBack(0), the other one is kept", () -> x.goBack(0), Check.NOT);
        for (int i : new int[] {2, -1, 31, 32, 33, Integer.MIN_VALUE, Integer.MAX_VALUE}) {
            Check.refused(x, "goBack(" + i + ")", () -> x.goBack(i), Check.UNKNOWN);
        }
        Check.feed(x, "goat");
        x.hills();
        Check.due("goBack(1) behind a FAULT", x.goBack(1), 1);
        x.hills();
        Check.due("goBack(1) behind hills()", x.goBack(1), Check.NOT);
    }
}
