/**
 * "REFUSALS, of several the first in this order: UNKNOWN, OUTSIDE, NOT, FULL", and "what is refused changes
 * nothing": each refused call of the document, and each two REFUSALS that one call can have at once.
 */
public final class RefusalsTest {
    private static final int NONE = Check.NONE;
    private static final int UNKNOWN = Check.UNKNOWN;
    private static final int OUTSIDE = Check.OUTSIDE;
    private static final int NOT = Check.NOT;
    private static final int FULL = Check.FULL;

    public static void main(String[] args) {
        theStatesAreAsTold();
        whatChangesIsSeen();
        feed();
        told();
        bridgeManOx();
        named();
        crossUnknown();
        crossNot();
        know();
        drift();
        mostAndNames();
        tellingsAndHired();
        found();
        whom();
        see();
        heavier();
        row();
        wrong();
        seed();
        images();
        fullText();
        fullSightsAndRow();
        bare();
        noBridges();
        noTravellers();
        Check.end("refusals");
    }

    private static void theStatesAreAsTold() {
        HeavierToCome x = States.rich();
        int[] told = {3, 2, 5, 3, 8, 1, Check.set(0, 2, 3, 4), 3, 3};
        for (int what = 0; what < told.length; what++) {
            Check.due("told(" + what + ")", x.told(what), told[what]);
        }
        Check.due("fault()", x.fault(), 8);
        Check.due("bridge(0, 1)", x.bridge(0, 1), Check.set(2));
        Check.due("bridge(1, 1)", x.bridge(1, 1), Check.set(3));
        Check.due("bridge(0, 2)", x.bridge(0, 2), Check.set(0));
        Check.due("bridge(1, 2)", x.bridge(1, 2), 0);
        x = States.full();
        Check.due("told(4)", x.told(4), 500);
        Check.due("told(7)", x.told(7), 20);
        Check.due("told(8)", x.told(8), 6);
    }

    /** The twins are of use only if a call that is not refused shows in them. */
    private static void whatChangesIsSeen() {
        Twins.changes(States::rich, "feed(1)", x -> x.feed(1, ' '));
        Twins.changes(States::rich, "hills()", x -> x.hills());
        Twins.changes(States::rich, "cross(1, 2, NONE)", x -> x.cross(1, 2, NONE));
        Twins.changes(States::rich, "evening()", x -> x.evening());
        Twins.changes(States::rich, "know(3, 0, true)", x -> x.know(3, 0, true));
        Twins.changes(States::rich, "drift(1)", x -> x.drift(1));
        Twins.changes(States::rich, "see(0, 1, true)", x -> x.see(0, 1, true));
        Twins.changes(States::rich, "row(0, NONE)", x -> x.row(0, NONE));
        Twins.changes(States::rich, "tear()", x -> x.tear());
        Twins.changes(States::rich, "seed(78)", x -> x.seed(78));
        Twins.changes(States::rich, "keep(0)", x -> x.keep(0));
        Twins.changes(States::rich, "keep(1)", x -> x.keep(1));
        Twins.changes(States::rich, "goBack(0)", x -> x.goBack(0));
    }

    private static void due(String call, Twins.Call asked, int want) {
        Twins.refused(States::rich, call, asked, want);
    }

    // ---- the hills

    private static void feed() {
        for (int n : new int[] {0, 9, -1, 10, 16, -8, 64, Integer.MIN_VALUE, Integer.MAX_VALUE}) {
            due("feed(" + n + ")", x -> x.feed(n, 0x2020202020202020L), OUTSIDE);
        }
    }

    private static void told() {
        for (int what : new int[] {-1, 9, 10, 31, 32, Integer.MIN_VALUE, Integer.MAX_VALUE}) {
            due("told(" + what + ")", x -> x.told(what), OUTSIDE);
        }
    }

    private static void bridgeManOx() {
        for (int no : new int[] {-1, 5, 6, 31, 32, Integer.MIN_VALUE, Integer.MAX_VALUE}) {
            due("bridge(" + no + ", 0)", x -> x.bridge(no, 0), UNKNOWN);
            due("man(" + no + ", 0)", x -> x.man(no, 0), UNKNOWN);
            due("ox(" + no + ", 0)", x -> x.ox(no, 0), UNKNOWN);
            // Two REFUSALS: UNKNOWN is ahead of OUTSIDE.
            due("bridge(" + no + ", 3)", x -> x.bridge(no, 3), UNKNOWN);
            due("man(" + no + ", 4)", x -> x.man(no, 4), UNKNOWN);
            due("ox(" + no + ", 2)", x -> x.ox(no, 2), UNKNOWN);
            due("ox(" + no + ", -1)", x -> x.ox(no, -1), UNKNOWN);
        }
        due("bridge(2, 1), behind the last one", x -> x.bridge(2, 1), UNKNOWN);
        due("ox(3, 1), behind the last one", x -> x.ox(3, 1), UNKNOWN);
        for (int what : new int[] {-1, 4, 5, 32, Integer.MIN_VALUE, Integer.MAX_VALUE}) {
            due("bridge(1, " + what + ")", x -> x.bridge(1, what), OUTSIDE);
            due("man(4, " + what + ")", x -> x.man(4, what), OUTSIDE);
            due("ox(2, " + what + ")", x -> x.ox(2, what), OUTSIDE);
        }
        due("bridge(1, 3)", x -> x.bridge(1, 3), OUTSIDE);
        due("ox(2, 2)", x -> x.ox(2, 2), OUTSIDE);
        due("ox(2, 3)", x -> x.ox(2, 3), OUTSIDE);
    }

    private static void named() {
        for (int no : new int[] {-1, 5, 6, 32, Integer.MIN_VALUE, Integer.MAX_VALUE}) {
            due("named(" + no + ", 2)", x -> x.named(no, 2), UNKNOWN);
            due("named(0, " + no + ")", x -> x.named(0, no), UNKNOWN);
        }
        due("named(2, 2), behind the last BRIDGE", x -> x.named(2, 2), UNKNOWN);
        due("named(2, 0), UNKNOWN and not OVER", x -> x.named(2, 0), UNKNOWN);
        due("named(0, 0), not OVER", x -> x.named(0, 0), NOT);
        due("named(1, 2), OVER the other one", x -> x.named(1, 2), NOT);
        due("named(0, 3), OVER the other one", x -> x.named(0, 3), NOT);
        due("named(1, 1), EATEN there", x -> x.named(1, 1), NOT);
    }

    // ---- days

    private static void crossUnknown() {
        for (int no : new int[] {-2, 5, 6, 32, Integer.MIN_VALUE, Integer.MAX_VALUE}) {
            due("cross(" + no + ", 4, NONE)", x -> x.cross(no, 4, NONE), UNKNOWN);
            due("cross(0, " + no + ", NONE)", x -> x.cross(0, no, NONE), UNKNOWN);
            due("cross(0, 0, " + no + ")", x -> x.cross(0, 0, no), UNKNOWN);
            // Two REFUSALS: UNKNOWN is ahead of NOT.
            due("cross(" + no + ", 1, 3), who lives no more", x -> x.cross(no, 1, 3), UNKNOWN);
            due("cross(0, 2, " + no + "), who is OVER", x -> x.cross(0, 2, no), UNKNOWN);
            due("cross(0, 1, " + no + "), who lives no more", x -> x.cross(0, 1, no), UNKNOWN);
        }
        due("cross(-1, 4, NONE)", x -> x.cross(-1, 4, NONE), UNKNOWN);
        due("cross(2, 4, NONE), behind the last BRIDGE", x -> x.cross(2, 4, NONE), UNKNOWN);
        due("cross(2, 0, 4), UNKNOWN and not known", x -> x.cross(2, 0, 4), UNKNOWN);
        due("cross(0, -1, NONE)", x -> x.cross(0, -1, NONE), UNKNOWN);
        due("cross(0, -1, 3)", x -> x.cross(0, -1, 3), UNKNOWN);
        due("cross(0, 0, 0), one twice", x -> x.cross(0, 0, 0), UNKNOWN);
        due("cross(0, 1, 1), one twice who lives no more", x -> x.cross(0, 1, 1), UNKNOWN);
        due("cross(0, 2, 2), one twice who is OVER", x -> x.cross(0, 2, 2), UNKNOWN);
    }

    private static void crossNot() {
        due("cross(0, 1, NONE), who lives no more", x -> x.cross(0, 1, NONE), NOT);
        due("cross(1, 1, 3), who lives no more", x -> x.cross(1, 1, 3), NOT);
        due("cross(0, 2, NONE), who is OVER", x -> x.cross(0, 2, NONE), NOT);
        due("cross(0, 2, 3), who is OVER", x -> x.cross(0, 2, 3), NOT);
        due("cross(1, 3, NONE), who is OVER", x -> x.cross(1, 3, NONE), NOT);
        due("cross(1, 0, 3), whom he does not know", x -> x.cross(1, 0, 3), NOT);
        due("cross(1, 2, 1), whom he does not know, who lives no more", x -> x.cross(1, 2, 1), NOT);
        due("cross(0, 3, 0), whom he does not know, who is lighter", x -> x.cross(0, 3, 0), NOT);
        due("cross(0, 0, 3), REMEMBERED, whom he does not know", x -> x.cross(0, 0, 3), NOT);
    }

    private static void know() {
        for (boolean is : new boolean[] {true, false}) {
            for (int no : new int[] {-1, -2, 5, 6, 31, 32, 33, Integer.MIN_VALUE, Integer.MAX_VALUE}) {
                due("know(" + no + ", 1, " + is + ")", x -> x.know(no, 1, is), UNKNOWN);
                due("know(1, " + no + ", " + is + ")", x -> x.know(1, no, is), UNKNOWN);
                due("know(" + no + ", " + no + ", " + is + ")", x -> x.know(no, no, is), UNKNOWN);
            }
            for (int t = 0; t < 5; t++) {
                int one = t;
                due("know(" + t + ", " + t + ", " + is + "), one twice", x -> x.know(one, one, is), UNKNOWN);
            }
        }
    }

    private static void drift() {
        for (int n : new int[] {0, 100, -1, 101, 1000, Integer.MIN_VALUE, Integer.MAX_VALUE}) {
            due("drift(" + n + ")", x -> x.drift(n), OUTSIDE);
        }
    }

    // ---- tried

    private static void mostAndNames() {
        for (int no : new int[] {-1, 2, 5, 32, Integer.MIN_VALUE, Integer.MAX_VALUE}) {
            due("most(" + no + ", NONE)", x -> x.most(no, NONE), UNKNOWN);
            due("most(" + no + ", 0)", x -> x.most(no, 0), UNKNOWN);
            due("names(" + no + ", 0)", x -> x.names(no, 0), UNKNOWN);
            // Two REFUSALS: UNKNOWN is ahead of OUTSIDE.
            due("names(" + no + ", -1)", x -> x.names(no, -1), UNKNOWN);
            due("names(" + no + ", 6)", x -> x.names(no, 6), UNKNOWN);
        }
        // 3 went by himself at 0 in this YEAR, so that nobody is in the TRUE ROW there; 0 and 2 need 3 at 1, who is OVER.
        for (int i : new int[] {-1, 0, 1, 5, 6, -2, 32, Integer.MIN_VALUE, Integer.MAX_VALUE}) {
            due("names(0, " + i + ")", x -> x.names(0, i), OUTSIDE);
        }
    }

    private static void tellingsAndHired() {
        for (int no : new int[] {-1, 2, 5, 32, Integer.MIN_VALUE, Integer.MAX_VALUE}) {
            due("tellings(" + no + ")", x -> x.tellings(no), UNKNOWN);
            due("hired(" + no + ", 0)", x -> x.hired(no, 0), UNKNOWN);
            due("hired(" + no + ", 1)", x -> x.hired(no, 1), UNKNOWN);
            // Two REFUSALS: UNKNOWN is ahead of OUTSIDE.
            due("hired(" + no + ", 2)", x -> x.hired(no, 2), UNKNOWN);
            due("hired(" + no + ", -1)", x -> x.hired(no, -1), UNKNOWN);
        }
        for (int what : new int[] {-1, 2, 3, 32, Integer.MIN_VALUE, Integer.MAX_VALUE}) {
            due("hired(0, " + what + "), where there is none", x -> x.hired(0, what), OUTSIDE);
            due("hired(1, " + what + ")", x -> x.hired(1, what), OUTSIDE);
        }
    }

    private static void found() {
        for (int what : new int[] {-1, 2, 3, 32, Integer.MIN_VALUE, Integer.MAX_VALUE}) {
            due("found(" + what + ")", x -> x.found(what), OUTSIDE);
        }
    }

    private static void whom() {
        for (int no : new int[] {-1, 5, 6, 32, Integer.MIN_VALUE, Integer.MAX_VALUE}) {
            due("whom(" + no + ", 0)", x -> x.whom(no, 0), UNKNOWN);
            due("whom(0, " + no + ")", x -> x.whom(0, no), UNKNOWN);
            // Two REFUSALS: UNKNOWN is ahead of NOT.
            due("whom(" + no + ", 1), who lives no more", x -> x.whom(no, 1), UNKNOWN);
        }
        due("whom(2, 0), behind the last BRIDGE", x -> x.whom(2, 0), UNKNOWN);
        due("whom(0, 1), who lives no more", x -> x.whom(0, 1), NOT);
        due("whom(1, 1), who lives no more", x -> x.whom(1, 1), NOT);
        due("whom(0, 2), who is OVER", x -> x.whom(0, 2), NOT);
        due("whom(1, 3), who is OVER", x -> x.whom(1, 3), NOT);
    }

    // ---- what was seen, the row

    private static void see() {
        for (boolean letGo : new boolean[] {true, false}) {
            for (int no : new int[] {-1, -2, 5, 6, 32, Integer.MIN_VALUE, Integer.MAX_VALUE}) {
                due("see(" + no + ", 0, " + letGo + ")", x -> x.see(no, 0, letGo), UNKNOWN);
                due("see(0, " + no + ", " + letGo + ")", x -> x.see(0, no, letGo), UNKNOWN);
            }
            due("see(0, 0, " + letGo + "), one twice", x -> x.see(0, 0, letGo), UNKNOWN);
            due("see(4, 4, " + letGo + "), one twice", x -> x.see(4, 4, letGo), UNKNOWN);
        }
    }

    private static void heavier() {
        for (int no : new int[] {-1, 5, 6, 32, Integer.MIN_VALUE, Integer.MAX_VALUE}) {
            due("heavier(" + no + ")", x -> x.heavier(no), UNKNOWN);
        }
    }

    private static void row() {
        for (int no : new int[] {-2, 5, 6, 32, Integer.MIN_VALUE, Integer.MAX_VALUE}) {
            due("row(" + no + ", NONE)", x -> x.row(no, NONE), UNKNOWN);
            due("row(" + no + ", 0)", x -> x.row(no, 0), UNKNOWN);
            due("row(0, " + no + ")", x -> x.row(0, no), UNKNOWN);
        }
        due("row(-1, NONE)", x -> x.row(-1, NONE), UNKNOWN);
        due("row(-1, 0)", x -> x.row(-1, 0), UNKNOWN);
        due("row(0, 0), one twice", x -> x.row(0, 0), UNKNOWN);
        due("row(4, 4), one twice", x -> x.row(4, 4), UNKNOWN);
    }

    private static void wrong() {
        for (int no : new int[] {-1, 2, 5, 32, Integer.MIN_VALUE, Integer.MAX_VALUE}) {
            due("wrong(" + no + ")", x -> x.wrong(no), UNKNOWN);
        }
    }

    // ---- draws, images

    private static void seed() {
        for (int v : new int[] {-1, -2, -1000000001, Integer.MIN_VALUE}) {
            due("seed(" + v + ")", x -> x.seed(v), OUTSIDE);
        }
    }

    private static void images() {
        for (int no : new int[] {-1, 2, 3, 31, 32, 33, Integer.MIN_VALUE, Integer.MAX_VALUE}) {
            due("keep(" + no + ")", x -> x.keep(no), UNKNOWN);
            due("goBack(" + no + "), neither an IMAGE nor kept", x -> x.goBack(no), UNKNOWN);
        }
        due("goBack(1), not kept", x -> x.goBack(1), NOT);
    }

    // ---- full

    private static void fullText() {
        for (int n = 1; n <= 8; n++) {
            int bytes = n;
            Twins.refused(() -> States.withBytes(501 - bytes), "feed(" + n + ") behind " + (501 - n), x -> x.feed(bytes, 0), FULL);
            Check.due("feed(" + n + ") behind " + (500 - n), States.withBytes(500 - n).feed(n, 0), 500);
            Twins.refused(States::full, "feed(" + n + ") behind 500", x -> x.feed(bytes, 0), FULL);
        }
        // Two REFUSALS: OUTSIDE is ahead of FULL.
        for (int n : new int[] {9, 0, -1, Integer.MAX_VALUE, Integer.MIN_VALUE}) {
            Twins.refused(States::full, "feed(" + n + ") behind 500", x -> x.feed(n, 0), OUTSIDE);
        }
    }

    private static void fullSightsAndRow() {
        for (boolean letGo : new boolean[] {true, false}) {
            Twins.refused(States::full, "see(2, 3, " + letGo + "), the 21st", x -> x.see(2, 3, letGo), FULL);
            // Two REFUSALS: UNKNOWN is ahead of FULL.
            Twins.refused(States::full, "see(2, 2, " + letGo + "), the 21st", x -> x.see(2, 2, letGo), UNKNOWN);
            Twins.refused(States::full, "see(5, 2, " + letGo + "), the 21st", x -> x.see(5, 2, letGo), UNKNOWN);
            Twins.refused(States::full, "see(2, -1, " + letGo + "), the 21st", x -> x.see(2, -1, letGo), UNKNOWN);
        }
        Twins.refused(States::full, "row(2, 3), the seventh", x -> x.row(2, 3), FULL);
        Twins.refused(States::full, "row(0, NONE), the seventh", x -> x.row(0, NONE), FULL);
        Twins.refused(States::full, "row(2, 2), the seventh", x -> x.row(2, 2), UNKNOWN);
        Twins.refused(States::full, "row(5, NONE), the seventh", x -> x.row(5, NONE), UNKNOWN);
        Twins.refused(States::full, "row(2, 5), the seventh", x -> x.row(2, 5), UNKNOWN);
    }

    // ---- without BRIDGES, without TRAVELLERS

    private static void bare() {
        ofNoBridge(HeavierToCome::new, "a new object");
        ofNoTraveller(HeavierToCome::new, "a new object");
        Twins.refused(HeavierToCome::new, "ox(0, 0) of a new object", x -> x.ox(0, 0), UNKNOWN);
        Twins.refused(HeavierToCome::new, "goBack(0) of a new object", x -> x.goBack(0), NOT);
        Twins.refused(HeavierToCome::new, "goBack(1) of a new object", x -> x.goBack(1), NOT);
        Twins.refused(HeavierToCome::new, "goBack(2) of a new object", x -> x.goBack(2), UNKNOWN);
    }

    private static void noBridges() {
        ofNoBridge(() -> Check.made("man 5 50;man 6 60;knows 0 1;"), "no BRIDGES");
    }

    private static void noTravellers() {
        ofNoTraveller(() -> Check.made("bridge 1;ox 9 9;"), "no TRAVELLERS");
    }

    private static void ofNoBridge(Twins.Maker maker, String why) {
        Twins.refused(maker, why + ": bridge(0, 0)", x -> x.bridge(0, 0), UNKNOWN);
        Twins.refused(maker, why + ": named(0, 0)", x -> x.named(0, 0), UNKNOWN);
        Twins.refused(maker, why + ": cross(0, 0, NONE)", x -> x.cross(0, 0, NONE), UNKNOWN);
        Twins.refused(maker, why + ": most(0, NONE)", x -> x.most(0, NONE), UNKNOWN);
        Twins.refused(maker, why + ": names(0, 0)", x -> x.names(0, 0), UNKNOWN);
        Twins.refused(maker, why + ": tellings(0)", x -> x.tellings(0), UNKNOWN);
        Twins.refused(maker, why + ": hired(0, 0)", x -> x.hired(0, 0), UNKNOWN);
        Twins.refused(maker, why + ": whom(0, 0)", x -> x.whom(0, 0), UNKNOWN);
        Twins.refused(maker, why + ": wrong(0)", x -> x.wrong(0), UNKNOWN);
        noDays(maker, why);
    }

    private static void ofNoTraveller(Twins.Maker maker, String why) {
        Twins.refused(maker, why + ": man(0, 0)", x -> x.man(0, 0), UNKNOWN);
        Twins.refused(maker, why + ": named(0, 0)", x -> x.named(0, 0), UNKNOWN);
        Twins.refused(maker, why + ": cross(0, 0, NONE)", x -> x.cross(0, 0, NONE), UNKNOWN);
        Twins.refused(maker, why + ": know(0, 1, true)", x -> x.know(0, 1, true), UNKNOWN);
        Twins.refused(maker, why + ": whom(0, 0)", x -> x.whom(0, 0), UNKNOWN);
        Twins.refused(maker, why + ": see(0, 1, true)", x -> x.see(0, 1, true), UNKNOWN);
        Twins.refused(maker, why + ": heavier(0)", x -> x.heavier(0), UNKNOWN);
        Twins.refused(maker, why + ": row(0, NONE)", x -> x.row(0, NONE), UNKNOWN);
        noDays(maker, why);
    }

    private static void noDays(Twins.Maker maker, String why) {
        Twins.refused(maker, why + ": drift(1)", x -> x.drift(1), NOT);
        Twins.refused(maker, why + ": drift(99)", x -> x.drift(99), NOT);
        // Two REFUSALS: OUTSIDE is ahead of NOT.
        Twins.refused(maker, why + ": drift(0)", x -> x.drift(0), OUTSIDE);
        Twins.refused(maker, why + ": drift(100)", x -> x.drift(100), OUTSIDE);
    }
}
