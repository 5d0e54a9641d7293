public final class Promise20SeeTest {
    public static void main(String[] args) {
        HeavierToCome x = Check.made(Check.HILLS);
        Check.due("see(0, 1, true)", x.see(0, 1, true), 1);
        Check.due("see(0, 1, true) again", x.see(0, 1, true), 2);
        Check.due("see(3, 4, false)", x.see(3, 4, false), 3);
        Check.due("told(7)", x.told(7), 3);
        Check.due("heavier(0): LET GO", x.heavier(0), Check.set(1));
        Check.due("heavier(1)", x.heavier(1), 0);
        Check.due("heavier(4): EATEN", x.heavier(4), Check.set(3));
        Check.due("heavier(3)", x.heavier(3), 0);
        Check.due("orders()", x.orders(), 30);
        Check.due("nobody is EATEN by it", x.told(6), 31);
        Check.due("a sight against another", x.see(0, 1, false), 4);
        Check.due("orders()", x.orders(), 0);
        x.cross(0, 1, -1);
        Check.due("see(1, 2, true) of one who lives no more, unknown to 1", x.see(1, 2, true), 5);
        full();
        refusals();
        Check.end("promise 20");
    }

    private static void full() {
        HeavierToCome x = Check.made(Check.HILLS);
        for (int k = 1; k <= 20; k++) {
            Check.due("see", x.see(k % 2, 2 + k % 3, k % 2 == 0), k);
        }
        Check.refused(x, "see(0, 1, true), the 21st", () -> x.see(0, 1, true), Check.FULL);
        Check.refused(x, "see(0, 1, false), the 21st", () -> x.see(0, 1, false), Check.FULL);
        Check.refused(x, "see(0, 0, true), the 21st", () -> x.see(0, 0, true), Check.UNKNOWN);
        Check.refused(x, "see(0, 5, true), the 21st", () -> x.see(0, 5, true), Check.UNKNOWN);
        Check.due("told(7)", x.told(7), 20);
        Check.due("tear()", x.tear(), 20);
        Check.due("see(0, 1, true) behind tear()", x.see(0, 1, true), 1);
    }

    private static void refusals() {
        HeavierToCome x = Check.made(Check.HILLS);
        for (boolean letGo : new boolean[] {true, false}) {
            Check.refused(x, "see(0, 0)", () -> x.see(0, 0, letGo), Check.UNKNOWN);
            Check.refused(x, "see(5, 0)", () -> x.see(5, 0, letGo), Check.UNKNOWN);
            Check.refused(x, "see(0, 5)", () -> x.see(0, 5, letGo), Check.UNKNOWN);
            Check.refused(x, "see(-1, 0)", () -> x.see(-1, 0, letGo), Check.UNKNOWN);
            Check.refused(x, "see(0, -1)", () -> x.see(0, -1, letGo), Check.UNKNOWN);
        }
        HeavierToCome y = Check.made(Check.HILLS);
        for (int out : Check.FAR_OUT) {
            Check.due("see(" + out + ", 0, true)", y.see(out, 0, true), Check.UNKNOWN);
            Check.due("see(0, " + out + ", false)", y.see(0, out, false), Check.UNKNOWN);
        }
        Check.due("told(7)", y.told(7), 0);
    }
}
