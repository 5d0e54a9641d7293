public final class Promise11EveningTest {
    public static void main(String[] args) {
        HeavierToCome x = Check.made(Check.HILLS);
        x.cross(0, 0, 2);
        x.cross(0, 1, 3);
        x.cross(0, 2, 3);
        x.cross(0, 3, -1);
        Check.due("evening() without a LIE", x.evening(), 0);
        Check.due("THE DAY", x.told(5), 1);
        Check.due("nobody is OVER", x.bridge(0, 1), 0);
        Check.due("nobody is REMEMBERED", x.bridge(0, 2), 0);
        Check.due("evening() of nobody", x.evening(), 0);
        Check.due("THE DAY", x.told(5), 2);
        twoBridges();
        theNamedIsGone();
        theLiarIsGone();
        fiveBridges();
        severalAtOneBridge();
        HeavierToCome none = new HeavierToCome();
        Check.due("evening() without HILLS", none.evening(), 0);
        Check.due("THE DAY", none.told(5), 1);
        Check.end("promise 11");
    }

    private static void twoBridges() {
        HeavierToCome x = Check.made(Check.HILLS);
        x.cross(0, 0, 1);
        x.cross(1, 2, 3);
        x.cross(0, 2, 3);
        x.cross(0, 3, -1);
        Check.due("evening(): 0 LIED at 0, 2 at 1", x.evening(), Check.set(0, 2));
        Check.due("bridge(0, 2)", x.bridge(0, 2), Check.set(0));
        Check.due("bridge(1, 2)", x.bridge(1, 2), Check.set(2));
        Check.due("bridge(0, 1)", x.bridge(0, 1), 0);
        Check.due("bridge(1, 1)", x.bridge(1, 1), 0);
        Check.due("evening(): a LIE comes out once", x.evening(), 0);
        Check.due("bridge(0, 2)", x.bridge(0, 2), Check.set(0));
    }

    /** Who is OVER and EATEN elsewhere then, is OVER still: that is no LIE. Who is EATEN before he is OVER is one. */
    private static void theNamedIsGone() {
        HeavierToCome x = Check.made(Check.HILLS);
        x.cross(0, 0, 1);
        x.cross(0, 1, 3);
        x.cross(1, 1, -1);
        x.cross(0, 3, -1);
        Check.due("evening(): 1 was OVER and then EATEN", x.evening(), 0);
        x = Check.made(Check.HILLS);
        x.cross(0, 0, 1);
        x.cross(1, 1, -1);
        Check.due("evening(): 1 was EATEN", x.evening(), Check.set(0));
    }

    private static void theLiarIsGone() {
        HeavierToCome x = Check.made(Check.HILLS);
        x.cross(0, 0, 1);
        x.cross(1, 0, -1);
        Check.due("told(6)", x.told(6), Check.set(1, 2, 3, 4));
        Check.due("evening(): who LIED lives no more", x.evening(), Check.set(0));
        Check.due("bridge(0, 2)", x.bridge(0, 2), Check.set(0));
    }

    private static void fiveBridges() {
        HeavierToCome x = Check.made("bridge 1;".repeat(5) + "man 1 1;man 2 1;man 3 1;man 4 1;man 5 1;man 6 1;"
                + "knows 0 5;knows 1 5;knows 2 5;knows 3 5;knows 4 5;");
        for (int b = 0; b < 5; b++) {
            x.cross(b, b, 5);
        }
        Check.due("evening()", x.evening(), Check.set(0, 1, 2, 3, 4));
        for (int b = 0; b < 5; b++) {
            Check.due("bridge(" + b + ", 2)", x.bridge(b, 2), Check.set(b));
        }
        Check.due("evening()", x.evening(), 0);
        Check.due("bridge(4, 2) behind M days", x.bridge(4, 2), 0);
    }

    private static void severalAtOneBridge() {
        for (int b = 0; b < 5; b++) {
            HeavierToCome x = Check.made(Check.MOST_HILLS);
            Check.crossNaming5(x, b);
            Check.crossNamingTheNext(x, (b + 1) % 5);
            x.cross((b + 1) % 5, 5, -1);
            Check.due("evening(): 0 to 4 LIED at " + b, x.evening(), Check.set(0, 1, 2, 3, 4));
            Check.crossNamingTheNext(x, (b + 1) % 5);
            Check.due("evening(): of those at " + (b + 1) % 5 + " 4 LIED", x.evening(), Check.set(4));
        }
    }
}
