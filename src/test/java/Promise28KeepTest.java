public final class Promise28KeepTest {
    public static void main(String[] args) {
        HeavierToCome x = Check.made(Check.HILLS);
        x.cross(0, 0, 1);
        x.see(0, 1, true);
        x.row(0, 1);
        String before = Check.seen(x);
        Check.due("keep(0)", x.keep(0), 1);
        Check.due("what is so behind keep(0)", Check.seen(x), before);
        x.evening();
        String later = Check.seen(x);
        Check.due("keep(1)", x.keep(1), 1);
        x.cross(0, 3, -1);
        x.goBack(0);
        Check.due("what IMAGE 0 kept", Check.seen(x), before);
        x.goBack(1);
        Check.due("what IMAGE 1 kept", Check.seen(x), later);
        x.cross(1, 3, -1);
        String latest = Check.seen(x);
        Check.due("keep(0) anew", x.keep(0), 1);
        x.goBack(1);
        Check.due("IMAGE 1 is as it was", Check.seen(x), later);
        x.goBack(0);
        Check.due("IMAGE 0 is anew", Check.seen(x), latest);
        refusals();
        noHills();
        Check.end("promise 28");
    }

    private static void refusals() {
        HeavierToCome x = Check.made(Check.HILLS);
        x.keep(0);
        x.evening();
        for (int i : new int[] {2, -1, 31, 32, 33, Integer.MIN_VALUE, Integer.MAX_VALUE}) {
            Check.refused(x, "keep(" + i + ")", () -> x.keep(i), Check.UNKNOWN);
        }
        Check.due("goBack(1) was not kept by those", x.goBack(1), Check.NOT);
        Check.due("goBack(0) was kept", x.goBack(0), 1);
        Check.due("told(5)", x.told(5), 0);
    }

    private static void noHills() {
        HeavierToCome x = new HeavierToCome();
        x.seed(8);
        Check.due("keep(1) without HILLS", x.keep(1), 1);
        x.evening();
        x.seed(9);
        Check.due("goBack(1) without HILLS", x.goBack(1), 1);
        Check.due("told(5)", x.told(5), 0);
        Check.due("seed(0)", x.seed(0), 8);
    }
}
