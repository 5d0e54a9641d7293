public final class Promise06BridgeTest {
    public static void main(String[] args) {
        HeavierToCome x = Check.made("bridge 2;bridge 0;bridge 9;bridge 1;bridge 5;");
        int[] forgets = {2, 0, 9, 1, 5};
        for (int b = 0; b < forgets.length; b++) {
            Check.due("bridge(" + b + ", 0)", x.bridge(b, 0), forgets[b]);
            Check.due("bridge(" + b + ", 1)", x.bridge(b, 1), 0);
            Check.due("bridge(" + b + ", 2)", x.bridge(b, 2), 0);
        }
        over();
        for (int m = 0; m <= 9; m++) {
            remembered(m);
        }
        latestLie();
        severalAtEachBridge();
        refusals();
        Check.end("promise 6");
    }

    private static void over() {
        HeavierToCome x = Check.made(Check.HILLS);
        x.cross(0, 0, 1);
        x.cross(0, 3, -1);
        x.cross(1, 2, 3);
        Check.due("bridge(0, 1)", x.bridge(0, 1), Check.set(0, 3));
        Check.due("bridge(1, 1)", x.bridge(1, 1), Check.set(2));
        x.cross(1, 0, -1);
        Check.due("bridge(0, 1) with one who lives no more", x.bridge(0, 1), Check.set(0, 3));
        Check.due("bridge(1, 1) without one who was EATEN", x.bridge(1, 1), Check.set(2));
        x.evening();
        Check.due("bridge(0, 1) next DAY", x.bridge(0, 1), 0);
        Check.due("bridge(1, 1) next DAY", x.bridge(1, 1), 0);
        Check.due("bridge(0, 2): the LIAR lives no more", x.bridge(0, 2), Check.set(0));
        Check.due("bridge(1, 2)", x.bridge(1, 2), Check.set(2));
    }

    /** From the next DAY on, for M days; 0: for ever. */
    private static void remembered(int m) {
        HeavierToCome x = Check.made("bridge " + m + ";bridge 1;man 1 1;man 2 2;knows 0 1;");
        x.evening();
        x.cross(0, 0, 1);
        Check.due("bridge(0, 2) on the DAY of the LIE", x.bridge(0, 2), 0);
        x.evening();
        for (int days = 1; days <= 12; days++) {
            int want = m == 0 || days <= m ? 1 : 0;
            Check.due("bridge(0, 2) with M " + m + " behind " + days, x.bridge(0, 2), want);
            Check.due("the other BRIDGE", x.bridge(1, 2), 0);
            x.evening();
        }
    }

    private static void latestLie() {
        HeavierToCome x = Check.made("bridge 2;man 1 1;man 2 2;knows 0 1;");
        x.cross(0, 0, 1);
        x.evening();
        x.evening();
        x.evening();
        Check.due("bridge(0, 2): forgotten", x.bridge(0, 2), 0);
        Check.due("cross(0, 0, 1): another LIE", x.cross(0, 0, 1), 1);
        x.evening();
        Check.due("bridge(0, 2) a DAY behind it", x.bridge(0, 2), 1);
        x.evening();
        Check.due("bridge(0, 2) two DAYS behind it", x.bridge(0, 2), 1);
        x.evening();
        Check.due("bridge(0, 2) three DAYS behind it", x.bridge(0, 2), 0);
    }

    private static void severalAtEachBridge() {
        int five = Check.set(0, 1, 2, 3, 4);
        for (int lied = 0; lied < 5; lied++) {
            HeavierToCome x = Check.made(Check.MOST_HILLS);
            Check.crossNaming5(x, lied);
            Check.due("bridge(" + lied + ", 1)", x.bridge(lied, 1), five);
            x.evening();
            for (int b = 0; b < 5; b++) {
                Check.due("bridge(" + b + ", 1), LIES at " + lied, x.bridge(b, 1), 0);
                Check.due("bridge(" + b + ", 2), LIES at " + lied, x.bridge(b, 2), b == lied ? five : 0);
            }
            x.cross(lied, 5, -1);
            Check.due("bridge(" + lied + ", 1) of 5 alone", x.bridge(lied, 1), Check.set(5));
        }
    }

    private static void refusals() {
        HeavierToCome x = Check.made(Check.HILLS);
        Check.refused(x, "bridge(2, 0)", () -> x.bridge(2, 0), Check.UNKNOWN);
        Check.refused(x, "bridge(-1, 0)", () -> x.bridge(-1, 0), Check.UNKNOWN);
        Check.refused(x, "bridge(2, 3)", () -> x.bridge(2, 3), Check.UNKNOWN);
        Check.refused(x, "bridge(0, 3)", () -> x.bridge(0, 3), Check.OUTSIDE);
        Check.refused(x, "bridge(1, -1)", () -> x.bridge(1, -1), Check.OUTSIDE);
        for (int out : Check.FAR_OUT) {
            Check.due("bridge(" + out + ", 1)", x.bridge(out, 1), Check.UNKNOWN);
            Check.due("bridge(0, " + out + ")", x.bridge(0, out), Check.OUTSIDE);
        }
    }
}
