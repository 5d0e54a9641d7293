public final class Promise07ManTest {
    public static void main(String[] args) {
        HeavierToCome x = Check.made(Check.HILLS);
        int[] weight = {50, 70, 60, 90, 70};
        int[] chance = {90, 50, 80, 20, 100};
        int[] knows = {Check.set(1, 2), Check.set(3, 4), Check.set(3), 0, Check.set(1)};
        for (int t = 0; t < 5; t++) {
            Check.due("man(" + t + ", 0)", x.man(t, 0), weight[t]);
            Check.due("man(" + t + ", 1)", x.man(t, 1), chance[t]);
            Check.due("man(" + t + ", 2)", x.man(t, 2), 1);
            Check.due("man(" + t + ", 3)", x.man(t, 3), knows[t]);
        }
        x.know(0, 2, false);
        x.know(0, 4, true);
        x.cross(0, 1, -1);
        Check.due("man(0, 3) told anew", x.man(0, 3), Check.set(1, 4));
        Check.due("man(1, 2) EATEN", x.man(1, 2), 0);
        Check.due("man(1, 0) EATEN", x.man(1, 0), 70);
        Check.due("man(1, 3) EATEN", x.man(1, 3), Check.set(3, 4));
        Check.due("man(0, 2)", x.man(0, 2), 1);
        edges();
        Check.refused(x, "man(5, 0)", () -> x.man(5, 0), Check.UNKNOWN);
        Check.refused(x, "man(-1, 0)", () -> x.man(-1, 0), Check.UNKNOWN);
        Check.refused(x, "man(5, 4)", () -> x.man(5, 4), Check.UNKNOWN);
        Check.refused(x, "man(0, 4)", () -> x.man(0, 4), Check.OUTSIDE);
        Check.refused(x, "man(4, -1)", () -> x.man(4, -1), Check.OUTSIDE);
        for (int out : Check.FAR_OUT) {
            Check.due("man(" + out + ", 0)", x.man(out, 0), Check.UNKNOWN);
            Check.due("man(0, " + out + ")", x.man(0, out), Check.OUTSIDE);
        }
        Check.end("promise 7");
    }

    private static void edges() {
        HeavierToCome x = Check.made("man 1 0;man 999 100;man 1 0;man 1 0;man 1 0;man 999 100;knows 5 4,0;");
        Check.due("the least WEIGHT", x.man(0, 0), 1);
        Check.due("the least Q", x.man(0, 1), 0);
        Check.due("the greatest WEIGHT", x.man(5, 0), 999);
        Check.due("the greatest Q", x.man(5, 1), 100);
        Check.due("man(5, 3)", x.man(5, 3), Check.set(0, 4));
        Check.told(x, "man 2 3;");
        Check.due("man(0, 0) of new HILLS", x.man(0, 0), 2);
        Check.due("man(5, 0) of new HILLS", x.man(5, 0), Check.UNKNOWN);
        Check.told(x, "man 2 3;man 2 3;man 2 3;man 2 3;man 2 3;man 2 3;");
        Check.due("man(5, 3) of new HILLS", x.man(5, 3), 0);
    }
}
