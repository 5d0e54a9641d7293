public final class Promise13DriftTest {
    /** THE SEED as the test itself has it draw. */
    private static long seed;

    public static void main(String[] args) {
        oneAlone();
        whoNeverComes();
        oneNames();
        bridgesByDraw();
        whoIsOverOrGone();
        manyDays();
        refusals();
        Check.end("promise 13");
    }

    private static int draw(int n) {
        seed = (seed * 1103515245L + 12345L) % 2147483648L;
        return (int) (seed / 65536 % n);
    }

    private static void oneAlone() {
        HeavierToCome x = Check.made("year 3;bridge 1;man 5 100;");
        Check.due("drift(1)", x.drift(1), 1);
        Check.due("told(5)", x.told(5), 1);
        Check.due("bridge(0, 1) is of the next DAY", x.bridge(0, 1), 0);
        seed = 0;
        draw(100);
        draw(1);
        draw(1);
        Check.due("seed() behind three DRAWS", x.seed((int) seed), seed);
        Check.due("drift(1) in the same YEAR", x.drift(1), 0);
        draw(100);
        draw(1);
        draw(1);
        Check.due("seed() behind six DRAWS", x.seed((int) seed), seed);
        Check.due("drift(99): nobody lives", x.drift(99), 0);
        Check.due("told(5)", x.told(5), 101);
        Check.due("seed(): nobody drew", x.seed(0), seed);
        x = Check.made("year 1;bridge 1;man 5 100;");
        Check.due("drift(99) with a YEAR of one DAY", x.drift(99), 1);
    }

    private static void whoNeverComes() {
        HeavierToCome x = Check.made("bridge 1;man 5 0;");
        x.seed(2147483647);
        Check.due("drift(50)", x.drift(50), 1);
        seed = 2147483647;
        for (int day = 0; day < 50; day++) {
            draw(100);
        }
        Check.due("seed(): one DRAW a DAY", x.seed(0), seed);
        Check.due("told(5)", x.told(5), 50);
    }

    /** 0 comes by half, and NAMES nobody, or 1 of whom he knows, or 2 of whom he does not know. */
    private static void oneNames() {
        for (int first = 0; first < 60; first++) {
            HeavierToCome x = Check.made("bridge 0;man 5 50;man 6 0;man 7 0;knows 0 1;");
            x.seed(first * 7919);
            seed = first * 7919;
            boolean comes = draw(100) < 50;
            boolean names = false;
            if (comes) {
                draw(1);
                names = draw(3) == 1;
            }
            draw(100);
            draw(100);
            int lives = comes && !names ? Check.set(1, 2) : 7;
            Check.due("drift(1) of seed " + first * 7919, x.drift(1), lives);
            Check.due("bridge(0, 2): by a NAME he LIED", x.bridge(0, 2), names ? 1 : 0);
            Check.due("seed()", x.seed(0), seed);
        }
    }

    private static void bridgesByDraw() {
        for (int first = 1; first <= 40; first++) {
            HeavierToCome x = Check.made("bridge 0;bridge 0;bridge 0;man 5 100;man 6 0;knows 0 1;");
            x.seed(first);
            seed = first;
            draw(100);
            int b = draw(3);
            boolean names = draw(2) == 1;
            Check.due("drift(1) of seed " + first, x.drift(1), names ? 3 : 2);
            for (int k = 0; k < 3; k++) {
                Check.due("bridge(" + k + ", 2)", x.bridge(k, 2), names && k == b ? 1 : 0);
            }
        }
    }

    /** Who is OVER already draws and stays; who lives no more draws nothing. */
    private static void whoIsOverOrGone() {
        HeavierToCome x = Check.made("bridge 1;man 5 100;man 6 0;");
        x.cross(0, 1, -1);
        x.know(1, 0, true);
        x.keep(0);
        seed = 0;
        draw(100);
        draw(1);
        draw(2);
        draw(100);
        Check.due("drift(1): 0 is EATEN", x.drift(1), 2);
        Check.due("seed()", x.seed(0), seed);
        x = Check.made("bridge 1;man 5 100;");
        x.cross(0, 0, -1);
        Check.due("drift(1): he is OVER", x.drift(1), 1);
        seed = 0;
        draw(100);
        draw(1);
        draw(1);
        Check.due("seed()", x.seed(0), seed);
        x = Check.made("bridge 1;man 5 100;man 6 0;");
        x.cross(0, 0, -1);
        x.seed(1);
        seed = 1;
        draw(100);
        Check.due("drift(1): one lives", x.drift(1), 2);
        Check.due("seed(): only he draws", x.seed(0), seed);
    }

    private static void manyDays() {
        HeavierToCome one = Check.made(Check.HILLS);
        HeavierToCome other = Check.made(Check.HILLS);
        one.seed(31415);
        other.seed(31415);
        for (int day = 0; day < 4; day++) {
            one.drift(1);
        }
        Check.due("drift(4)", other.drift(4), one.told(6));
        Check.due("all of it", Check.seen(other), Check.seen(one));
    }

    private static void refusals() {
        HeavierToCome x = Check.made(Check.HILLS);
        for (int n : new int[] {0, -1, 100, 101, Integer.MIN_VALUE, Integer.MAX_VALUE}) {
            Check.refused(x, "drift(" + n + ")", () -> x.drift(n), Check.OUTSIDE);
        }
        HeavierToCome none = new HeavierToCome();
        Check.refused(none, "drift(1) without HILLS", () -> none.drift(1), Check.NOT);
        Check.refused(none, "drift(99) without HILLS", () -> none.drift(99), Check.NOT);
        Check.refused(none, "drift(0) without HILLS", () -> none.drift(0), Check.OUTSIDE);
        Check.refused(none, "drift(100) without HILLS", () -> none.drift(100), Check.OUTSIDE);
        HeavierToCome noBridge = Check.made("man 1 1;");
        Check.refused(noBridge, "drift(1) without BRIDGES", () -> noBridge.drift(1), Check.NOT);
        HeavierToCome noMan = Check.made("bridge 1;");
        Check.refused(noMan, "drift(1) without TRAVELLERS", () -> noMan.drift(1), Check.NOT);
    }
}
