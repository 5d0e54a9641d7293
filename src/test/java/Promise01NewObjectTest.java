public final class Promise01NewObjectTest {
    public static void main(String[] args) {
        HeavierToCome x = new HeavierToCome();
        int[] told = {10, 0, 0, 0, 0, 0, 0, 0, 0};
        for (int what = 0; what < told.length; what++) {
            Check.due("told(" + what + ")", x.told(what), told[what]);
        }
        Check.due("fault()", x.fault(), Check.NONE);
        Check.due("bridge(0, 0)", x.bridge(0, 0), Check.UNKNOWN);
        Check.due("man(0, 0)", x.man(0, 0), Check.UNKNOWN);
        Check.due("ox(0, 0)", x.ox(0, 0), Check.UNKNOWN);
        Check.due("orders()", x.orders(), 1);
        Check.due("heavier(0)", x.heavier(0), Check.UNKNOWN);
        Check.due("odds()", x.odds(), 1000000000);
        Check.due("found(0)", x.found(0), 0);
        Check.due("found(1)", x.found(1), 0);
        Check.due("seed(0)", x.seed(0), 0);
        Check.due("goBack(0)", x.goBack(0), Check.NOT);
        Check.due("goBack(1)", x.goBack(1), Check.NOT);
        Check.due("evening()", x.evening(), 0);
        Check.due("told(5)", x.told(5), 1);
        constants();
        twoObjects();
        asHillsOfNoText();
        fiveHundredAndTwelveCalls();
        Check.end("promise 1");
    }

    private static void constants() {
        Check.due("NONE", HeavierToCome.NONE, -1);
        Check.due("UNKNOWN", HeavierToCome.UNKNOWN, -1000000001);
        Check.due("OUTSIDE", HeavierToCome.OUTSIDE, -1000000002);
        Check.due("NOT", HeavierToCome.NOT, -1000000003);
        Check.due("FULL", HeavierToCome.FULL, -1000000004);
    }

    /** One object knows nothing of another. */
    private static void twoObjects() {
        HeavierToCome one = Check.made(Check.HILLS);
        one.cross(0, 3, -1);
        one.seed(77);
        HeavierToCome other = new HeavierToCome();
        Check.due("told(2) of another", other.told(2), 0);
        Check.due("seed(0) of another", other.seed(0), 0);
        Check.due("bridge(0, 1) of one", one.bridge(0, 1), Check.set(3));
    }

    /** "No BRIDGES, no TRAVELLERS; a YEAR of 10 days": an empty text tells no others. */
    private static void asHillsOfNoText() {
        Twins.alike("a new object and HILLS of no text", HeavierToCome::new, () -> Check.made(""));
    }

    /** "An object is used for at most 512 calls": the last one of them is answered as the first. */
    private static void fiveHundredAndTwelveCalls() {
        HeavierToCome days = new HeavierToCome();
        for (int call = 1; call <= 511; call++) {
            days.evening();
        }
        Check.due("told(5), the 512th call", days.told(5), 511);
        HeavierToCome text = new HeavierToCome();
        for (int call = 1; call <= 500; call++) {
            Check.due("feed(1), the call " + call, text.feed(1, ' '), call);
        }
        for (int call = 501; call <= 511; call++) {
            Check.due("feed(1), the call " + call, text.feed(1, ' '), Check.FULL);
        }
        Check.due("hills(), the 512th call", text.hills(), 0);
        HeavierToCome drawn = new HeavierToCome();
        // Three calls of feed, one of hills.
        Check.feed(drawn, "bridge 1;man 5 0;");
        drawn.hills();
        for (int call = 5; call <= 511; call++) {
            drawn.drift(99);
        }
        Check.due("told(5), the 512th call", drawn.told(5), 507 * 99);
    }
}
