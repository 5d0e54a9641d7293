public final class Promise08OxTest {
    public static void main(String[] args) {
        HeavierToCome x = Check.made("ox 100 30;ox 80 10;ox 1 0;ox 999 999;ox 7 8;");
        int[] weight = {100, 80, 1, 999, 7};
        int[] price = {30, 10, 0, 999, 8};
        for (int o = 0; o < 5; o++) {
            Check.due("ox(" + o + ", 0)", x.ox(o, 0), weight[o]);
            Check.due("ox(" + o + ", 1)", x.ox(o, 1), price[o]);
        }
        Check.told(x, "ox 3 4;man 1 1;");
        Check.due("ox(0, 0) of new HILLS", x.ox(0, 0), 3);
        Check.due("ox(0, 1) of new HILLS", x.ox(0, 1), 4);
        Check.refused(x, "ox(1, 0)", () -> x.ox(1, 0), Check.UNKNOWN);
        Check.refused(x, "ox(-1, 0)", () -> x.ox(-1, 0), Check.UNKNOWN);
        Check.refused(x, "ox(1, 2)", () -> x.ox(1, 2), Check.UNKNOWN);
        Check.refused(x, "ox(0, 2)", () -> x.ox(0, 2), Check.OUTSIDE);
        Check.refused(x, "ox(0, -1)", () -> x.ox(0, -1), Check.OUTSIDE);
        for (int out : Check.FAR_OUT) {
            Check.due("ox(" + out + ", 0)", x.ox(out, 0), Check.UNKNOWN);
            Check.due("ox(0, " + out + ")", x.ox(0, out), Check.OUTSIDE);
        }
        Check.end("promise 8");
    }
}
