public final class Promise27SeedTest {
    public static void main(String[] args) {
        HeavierToCome x = Check.made("bridge 1;man 5 0;");
        Check.due("seed(5)", x.seed(5), 0);
        Check.due("seed(2147483647)", x.seed(2147483647), 5);
        Check.due("seed(0)", x.seed(0), 2147483647);
        Check.due("seed(1)", x.seed(1), 0);
        x.drift(1);
        Check.due("seed(): 1 * 1103515245 + 12345", x.seed(2147483647), 1103527590);
        x.drift(1);
        // 2147483647 is one less than what is left over by, so that 1103515245 is taken away once.
        Check.due("seed() behind the greatest", x.seed(1103527590), 2147483648L - 1103515245 + 12345);
        x.drift(1);
        Check.due("seed() behind another", x.seed(3), (1103527590L * 1103515245L + 12345L) % 2147483648L);
        for (int v : new int[] {-1, -2, Integer.MIN_VALUE, -1000000001}) {
            Check.refused(x, "seed(" + v + ")", () -> x.seed(v), Check.OUTSIDE);
        }
        Check.due("seed(0) behind what was refused", x.seed(0), 3);
        Check.end("promise 27");
    }
}
