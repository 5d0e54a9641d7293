public final class Promise22HeavierTest {
    public static void main(String[] args) {
        HeavierToCome x = Check.made(Check.HILLS);
        due("nothing SEEN", x, 0, 0, 0, 0, 0);
        x.see(0, 1, true);
        due("0 before 1", x, Check.set(1), 0, 0, 0, 0);
        x.see(1, 2, true);
        due("a chain", x, Check.set(1, 2), Check.set(2), 0, 0, 0);
        x.see(3, 2, false);
        due("a longer chain", x, Check.set(1, 2, 3), Check.set(2, 3), Check.set(3), 0, 0);
        Check.due("orders() is as before", x.orders(), 5);
        x.cross(0, 4, -1);
        x.see(4, 0, true);
        due("all, those too who live no more", x, Check.set(1, 2, 3), Check.set(2, 3), Check.set(3), 0, Check.set(0, 1, 2, 3));
        x.see(3, 4, true);
        due("no ORDERS", x, 0, 0, 0, 0, 0);
        x.tear();
        x.see(0, 1, true);
        x.see(0, 2, true);
        x.see(1, 3, true);
        x.see(2, 3, true);
        due("a square", x, Check.set(1, 2, 3), Check.set(3), Check.set(3), 0, 0);
        due("asked again", x, Check.set(1, 2, 3), Check.set(3), Check.set(3), 0, 0);
        Check.refused(x, "heavier(5)", () -> x.heavier(5), Check.UNKNOWN);
        Check.refused(x, "heavier(-1)", () -> x.heavier(-1), Check.UNKNOWN);
        for (int out : Check.FAR_OUT) {
            Check.due("heavier(" + out + ")", x.heavier(out), Check.UNKNOWN);
        }
        HeavierToCome six = Check.made("man 9 9;".repeat(6));
        for (int t = 5; t > 0; t--) {
            six.see(t, t - 1, true);
        }
        due("six", six, 0, 1, 3, 7, 15, 31);
        HeavierToCome none = new HeavierToCome();
        Check.refused(none, "heavier(0) without TRAVELLERS", () -> none.heavier(0), Check.UNKNOWN);
        Check.end("promise 22");
    }

    private static void due(String why, HeavierToCome x, int... sets) {
        for (int t = 0; t < sets.length; t++) {
            Check.due(why + ": heavier(" + t + ")", x.heavier(t), sets[t]);
        }
    }
}
