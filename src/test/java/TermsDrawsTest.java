import java.math.BigInteger;

/** The terms BY DRAWS and IMAGES (3): each sentence that names an edge, with both sides of it. */
public final class TermsDrawsTest {
    private static final int NONE = Check.NONE;
    /** THE SEED as this test has it draw. */
    private static BigInteger seed;

    public static void main(String[] args) {
        zeroAtFirst();
        leftOver();
        belowQ();
        aDrawOfBridgesAndOfAll();
        namingHimIfHeKnows();
        ifHeIsNotOver();
        eachWhoLivesInOrder();
        thenEvening();
        oneToNinetyNineDays();
        imagesKeepWhoLives();
        imagesKeepWhoKnows();
        imagesKeepTheDayAndWhoIsOver();
        imagesKeepLies();
        imagesKeepWhoWentByHimself();
        imagesKeepTheSeed();
        imagesKeepNothingElse();
        twoImages();
        Check.end("terms, draws and images");
    }

    /** "it becomes it times 1103515245 and 12345, left over by 2 to the 31; the DRAW of n is it / 65536, left over by n". */
    private static int draw(int n) {
        seed = seed.multiply(BigInteger.valueOf(1103515245)).add(BigInteger.valueOf(12345)).mod(BigInteger.ONE.shiftLeft(31));
        return seed.divide(BigInteger.valueOf(65536)).mod(BigInteger.valueOf(n)).intValueExact();
    }

    private static void begin(long first) {
        seed = BigInteger.valueOf(first);
    }

    private static void seedIs(String why, HeavierToCome x) {
        int now = x.seed(0);
        x.seed(now);
        Check.due(why + ": THE SEED", now, seed.longValueExact());
    }

    /** "THE SEED (0 at first ...)"; "THE SEED stays" by hills(). */
    private static void zeroAtFirst() {
        Check.due("seed(0) of a new object", new HeavierToCome().seed(0), 0);
        HeavierToCome x = Check.made("bridge 1;man 5 0;");
        Check.due("seed(9) behind hills()", x.seed(9), 0);
        Check.told(x, "bridge 1;man 5 0;");
        Check.due("seed(0) behind hills() again", x.seed(0), 9);
        x.drift(1);
        Check.due("0 becomes 12345", x.seed(0), 12345);
        x.drift(2);
        Check.due("0 becomes 12345, and that 1406932606", x.seed(0), 1406932606);
    }

    private static void leftOver() {
        long[] firsts = {0, 1, 2, 65535, 65536, 12345, 1073741823, 1073741824, 2147483646, 2147483647, 1103515245, 305419896};
        for (long first : firsts) {
            HeavierToCome x = Check.made("bridge 1;man 5 0;man 6 0;");
            x.seed((int) first);
            begin(first);
            for (int day = 0; day < 20; day++) {
                x.drift(1);
                draw(100);
                draw(100);
                seedIs("behind " + first + " and " + (day + 1) + " DAYS", x);
            }
        }
    }

    /** "a DRAW of 100: below Q he comes": Q the DRAW itself, one more; 0 never, 100 always. */
    private static void belowQ() {
        for (int first = 0; first < 200; first++) {
            begin(first);
            int drawn = draw(100);
            HeavierToCome x = Check.made("bridge 1;man 5 " + drawn + ";man 6 0;");
            x.seed(first);
            Check.due("seed " + first + ", Q the DRAW " + drawn + ": he does not come", x.drift(1), 3);
            draw(100);
            seedIs("he does not come", x);
            x = Check.made("bridge 1;man 5 " + (drawn + 1) + ";man 6 0;");
            x.seed(first);
            Check.due("seed " + first + ", Q one more than " + drawn + ": he comes", x.drift(1), 2);
            begin(first);
            draw(100);
            draw(1);
            draw(2);
            draw(100);
            seedIs("he comes", x);
        }
        HeavierToCome never = Check.made("bridge 1;man 5 0;man 6 0;");
        HeavierToCome always = Check.made("year 99;bridge 1;man 5 100;man 6 0;");
        for (int first = 0; first < 90; first++) {
            never.seed(first * 23456789);
            Check.due("Q 0: told(6)", never.drift(1), 3);
            always.keep(0);
            always.seed(first * 23456789);
            Check.due("Q 100: told(6)", always.drift(1), 2);
            always.goBack(0);
        }
    }

    /** "a DRAW of BRIDGES, a DRAW of all TRAVELLERS": 1 up to 5, of all six, be it one who lives no more. */
    private static void aDrawOfBridgesAndOfAll() {
        for (int bridges = 1; bridges <= 5; bridges++) {
            for (int men = 2; men <= 6; men++) {
                for (int first = 1; first <= 12; first++) {
                    HeavierToCome x = Check.made("year 99;" + "bridge 0;".repeat(bridges) + "man 5 100;" + "man 6 0;".repeat(men - 1));
                    for (int u = 1; u < men; u++) {
                        x.know(0, u, true);
                    }
                    x.seed(first * 1000003);
                    begin(first * 1000003);
                    draw(100);
                    int b = draw(bridges);
                    boolean names = draw(men) != 0;
                    int all = (1 << men) - 1;
                    Check.due("drift(1)", x.drift(1), names ? all : all - 1);
                    for (int k = 0; k < bridges; k++) {
                        Check.due("bridge(" + k + ", 2): he LIED at " + b, x.bridge(k, 2), names && k == b ? 1 : 0);
                    }
                    for (int t = 1; t < men; t++) {
                        draw(100);
                    }
                    seedIs("drift(1)", x);
                }
            }
        }
    }

    /** "NAMING that one, if he knows of him, else nobody": 1 whom he knows of, 2 whom he does not, 0 himself. */
    private static void namingHimIfHeKnows() {
        int[] drawn = new int[3];
        for (int first = 1; first <= 60; first++) {
            begin(first * 7654321);
            draw(100);
            draw(1);
            int u = draw(3);
            drawn[u]++;
            HeavierToCome x = Check.made("bridge 0;man 5 100;man 6 0;man 7 0;knows 0 1;");
            x.seed(first * 7654321);
            Check.due("a DRAW of " + u + ": EATEN, if not 1", x.drift(1), u == 1 ? 7 : 6);
            Check.due("a DRAW of " + u + ": LIED, if 1", x.bridge(0, 2), u == 1 ? 1 : 0);
            HeavierToCome heaviest = Check.made("bridge 0;man 8 100;man 6 0;man 7 0;knows 0 1;");
            heaviest.seed(first * 7654321);
            Check.due("the heaviest, a DRAW of " + u + ": EATEN, if 1", heaviest.drift(1), u == 1 ? 6 : 7);
        }
        for (int u = 0; u < 3; u++) {
            Check.due("DRAWS of " + u, drawn[u] > 5 ? 1 : 0, 1);
        }
    }

    /** "he crosses, if he is not OVER it": who is OVER draws all three, and stays. */
    private static void ifHeIsNotOver() {
        HeavierToCome x = Check.made("bridge 1;man 5 100;man 4 0;");
        x.cross(0, 0, NONE);
        x.seed(5);
        Check.due("OVER: drift(1)", x.drift(1), 3);
        begin(5);
        draw(100);
        draw(1);
        draw(2);
        draw(100);
        seedIs("OVER", x);
        // OVER one of two BRIDGES, he stays or goes by the DRAW, and is LET GO by himself.
        for (int first = 1; first <= 20; first++) {
            x = Check.made("year 1;bridge 1;bridge 1;man 5 100;man 6 0;knows 0 1;");
            x.cross(1, 0, 1);
            x.seed(first);
            begin(first);
            draw(100);
            int b = draw(2);
            boolean names = draw(2) == 1;
            Check.due("OVER 1, a DRAW of " + b, x.drift(1), b == 1 || names ? 3 : 2);
            Check.due("he LIED at 1", x.bridge(1, 2), 1);
            Check.due("he LIED at 0, if he crossed it", x.bridge(0, 2), b == 0 && names ? 1 : 0);
        }
    }

    /** "each TRAVELLER who lives, in order". */
    private static void eachWhoLivesInOrder() {
        HeavierToCome x = Check.made("bridge 1;man 5 0;man 6 0;man 7 0;");
        x.cross(0, 0, NONE);
        x.cross(0, 1, NONE);
        x.seed(3);
        x.drift(1);
        begin(3);
        draw(100);
        seedIs("one of three lives", x);
        x.cross(0, 2, NONE);
        x.evening();
        x.cross(0, 2, NONE);
        Check.due("told(6)", x.told(6), 0);
        Check.due("drift(99) of nobody", x.drift(99), 0);
        seedIs("nobody lives", x);
        // The first one may be NAMED by nobody behind him: 1 NAMES 0, who is OVER by then, whenever 0 went by himself.
        for (int first = 1; first <= 40; first++) {
            x = Check.made("bridge 1;man 6 100;man 5 100;knows 1 0;");
            x.seed(first);
            begin(first);
            draw(100);
            draw(1);
            draw(2);
            draw(100);
            draw(1);
            Check.due("0 is OVER ahead of 1", x.drift(1), 1);
            draw(2);
            seedIs("two came", x);
            x = Check.made("bridge 1;man 5 100;man 6 100;knows 0 1;");
            x.seed(first);
            begin(first);
            draw(100);
            draw(1);
            boolean names = draw(2) == 1;
            Check.due("0 goes ahead of 1", x.drift(1), names ? 3 : 2);
            Check.due("nobody LIED", x.bridge(0, 2), 0);
        }
    }

    /** "then EVENING": each DAY. */
    private static void thenEvening() {
        HeavierToCome x = Check.made("bridge 0;man 5 0;man 6 0;knows 0 1;");
        x.cross(0, 0, 1);
        x.drift(1);
        Check.due("told(5)", x.told(5), 1);
        Check.due("bridge(0, 1)", x.bridge(0, 1), 0);
        Check.due("bridge(0, 2): LIED by that EVENING", x.bridge(0, 2), 1);
        x = Check.made("year 2;bridge 1;man 5 100;");
        Check.due("by himself on DAY 0, not on DAY 1", x.drift(2), 0);
        x = Check.made("year 1;bridge 1;man 5 100;");
        Check.due("by himself on each DAY", x.drift(2), 1);
    }

    /** "n DAYS (1 .. 99)". */
    private static void oneToNinetyNineDays() {
        for (int n : new int[] {1, 2, 50, 98, 99}) {
            HeavierToCome x = Check.made("bridge 1;man 5 0;");
            Check.due("drift(" + n + ")", x.drift(n), 1);
            Check.due("told(5) behind " + n, x.told(5), n);
            Check.due("drift(" + n + ")", x.drift(n), 1);
            Check.due("told(5) behind twice " + n, x.told(5), 2 * n);
        }
        HeavierToCome x = Check.made("bridge 1;man 5 0;");
        Check.due("drift(0)", x.drift(0), Check.OUTSIDE);
        Check.due("drift(100)", x.drift(100), Check.OUTSIDE);
        Check.due("told(5)", x.told(5), 0);
    }

    // ---- "IMAGES 0, 1 keep ..."

    private static HeavierToCome kept(String hills) {
        HeavierToCome x = Check.made(hills);
        x.keep(0);
        return x;
    }

    private static void imagesKeepWhoLives() {
        HeavierToCome x = kept("bridge 1;man 5 0;man 6 0;man 7 0;");
        x.cross(0, 0, NONE);
        x.keep(1);
        x.cross(0, 1, NONE);
        Check.due("told(6)", x.told(6), 4);
        x.goBack(1);
        Check.due("told(6) of IMAGE 1", x.told(6), 6);
        Check.due("man(0, 2) of IMAGE 1", x.man(0, 2), 0);
        x.goBack(0);
        Check.due("told(6) of IMAGE 0", x.told(6), 7);
        x.goBack(1);
        Check.due("told(6) of IMAGE 1 again", x.told(6), 6);
    }

    private static void imagesKeepWhoKnows() {
        HeavierToCome x = kept("bridge 1;man 1 0;man 2 0;man 3 0;man 4 0;man 5 0;man 6 0;knows 0 1;knows 5 0;");
        for (int t = 0; t < 6; t++) {
            x.know(t, t == 5 ? 4 : 5, true);
        }
        x.know(0, 1, false);
        int[] now = {32, 32, 32, 32, 32, 17};
        int[] before = {2, 0, 0, 0, 0, 1};
        x.keep(1);
        x.goBack(0);
        for (int t = 0; t < 6; t++) {
            Check.due("man(" + t + ", 3) of IMAGE 0", x.man(t, 3), before[t]);
        }
        x.goBack(1);
        for (int t = 0; t < 6; t++) {
            Check.due("man(" + t + ", 3) of IMAGE 1", x.man(t, 3), now[t]);
        }
    }

    private static void imagesKeepTheDayAndWhoIsOver() {
        HeavierToCome x = kept("year 9;" + "bridge 1;".repeat(5) + "man 5 0;man 6 0;man 7 0;knows 0 1,2;");
        x.evening();
        for (int b = 0; b < 5; b++) {
            x.cross(b, 0, 1 + b % 2);
            x.cross(b, 2, NONE);
        }
        x.keep(1);
        x.evening();
        Check.due("another NAME, where he did not LIE", x.cross(1, 0, 1), 1);
        x.goBack(0);
        Check.due("told(5) of IMAGE 0", x.told(5), 0);
        for (int b = 0; b < 5; b++) {
            Check.due("bridge(" + b + ", 1) of IMAGE 0", x.bridge(b, 1), 0);
        }
        x.goBack(1);
        Check.due("told(5) of IMAGE 1", x.told(5), 1);
        for (int b = 0; b < 5; b++) {
            Check.due("bridge(" + b + ", 1) of IMAGE 1", x.bridge(b, 1), 5);
            Check.due("named(" + b + ", 0) of IMAGE 1", x.named(b, 0), 1 + b % 2);
            Check.due("named(" + b + ", 2) of IMAGE 1", x.named(b, 2), NONE);
        }
        Check.due("found(0) of IMAGE 1", x.found(0), 1);
    }

    private static void imagesKeepLies() {
        HeavierToCome x = kept("bridge 0;bridge 2;man 5 0;man 6 0;knows 0 1;");
        x.cross(0, 0, 1);
        x.cross(1, 0, 1);
        x.evening();
        x.keep(1);
        x.evening();
        x.evening();
        Check.due("bridge(1, 2): forgotten", x.bridge(1, 2), 0);
        x.goBack(1);
        Check.due("bridge(0, 2) of IMAGE 1", x.bridge(0, 2), 1);
        Check.due("bridge(1, 2) of IMAGE 1", x.bridge(1, 2), 1);
        x.goBack(0);
        Check.due("bridge(0, 2) of IMAGE 0", x.bridge(0, 2), 0);
        x.evening();
        Check.due("bridge(0, 2) a DAY behind IMAGE 0", x.bridge(0, 2), 0);
    }

    private static void imagesKeepWhoWentByHimself() {
        HeavierToCome x = kept("year 4;bridge 1;bridge 1;man 5 0;");
        x.cross(0, 0, NONE);
        x.evening();
        x.keep(1);
        x.goBack(0);
        Check.due("IMAGE 0: he has not gone", x.cross(0, 0, NONE), 1);
        x.goBack(0);
        x.evening();
        Check.due("IMAGE 0, DAY 1: he has not gone", x.cross(0, 0, NONE), 1);
        x.goBack(1);
        Check.due("IMAGE 1: he has not gone at 1", x.cross(1, 0, NONE), 1);
        Check.due("IMAGE 1: he has gone at 0", x.cross(0, 0, NONE), 0);
        x.goBack(1);
        for (int day = 1; day < 4; day++) {
            x.evening();
        }
        Check.due("IMAGE 1, the next YEAR", x.cross(0, 0, NONE), 1);
    }

    private static void imagesKeepTheSeed() {
        HeavierToCome x = Check.made("bridge 1;man 5 0;");
        x.seed(2147483647);
        x.keep(0);
        x.seed(1);
        x.keep(1);
        x.drift(9);
        x.goBack(0);
        Check.due("seed() of IMAGE 0", x.seed(6), 2147483647);
        x.goBack(1);
        Check.due("seed() of IMAGE 1", x.seed(7), 1);
        x.goBack(0);
        Check.due("seed() of IMAGE 0 again", x.seed(8), 2147483647);
    }

    /** What was SEEN, THE ROW, THE TEXT and its FAULT are of no IMAGE. */
    private static void imagesKeepNothingElse() {
        HeavierToCome x = kept("bridge 1;man 5 50;man 6 50;");
        x.see(0, 1, true);
        x.row(0, 1);
        x.feed(1, '!');
        x.hills();
        x.feed(2, 0);
        x.goBack(0);
        Check.due("told(7)", x.told(7), 1);
        Check.due("heavier(0)", x.heavier(0), 2);
        Check.due("told(8)", x.told(8), 1);
        Check.due("odds()", x.odds(), 500000000);
        Check.due("told(4)", x.told(4), 2);
        Check.due("fault()", x.fault(), 0);
        x.keep(1);
        x.tear();
        x.goBack(1);
        Check.due("told(7) behind tear()", x.told(7), 0);
        Check.due("told(8) behind tear()", x.told(8), 0);
    }

    /** Each may be kept anew, and gone back to more than once; new HILLS leave none, a FAULT leaves both. */
    private static void twoImages() {
        HeavierToCome x = Check.made("bridge 1;man 5 50;");
        Check.due("goBack(0), not kept", x.goBack(0), Check.NOT);
        Check.due("goBack(1), not kept", x.goBack(1), Check.NOT);
        x.keep(1);
        Check.due("goBack(0), 1 is kept", x.goBack(0), Check.NOT);
        Check.due("goBack(1), kept", x.goBack(1), 1);
        x.evening();
        x.keep(0);
        x.evening();
        x.keep(1);
        Check.due("goBack(0)", x.goBack(0), 1);
        Check.due("told(5)", x.told(5), 1);
        Check.due("goBack(1)", x.goBack(1), 1);
        Check.due("told(5)", x.told(5), 2);
        x.feed(1, '!');
        x.hills();
        Check.due("goBack(0) behind a FAULT", x.goBack(0), 1);
        Check.due("goBack(1) behind a FAULT", x.goBack(1), 1);
        x.hills();
        Check.due("goBack(0) behind hills()", x.goBack(0), Check.NOT);
        Check.due("goBack(1) behind hills()", x.goBack(1), Check.NOT);
        x.keep(0);
        Check.due("goBack(0) kept anew", x.goBack(0), 1);
        Check.due("goBack(1) not kept anew", x.goBack(1), Check.NOT);
    }
}
