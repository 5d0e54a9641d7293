public final class Promise17HiredTest {
    public static void main(String[] args) {
        HeavierToCome x = Check.made(Check.HILLS);
        due("4 of 70 needs the OX of 75", x, 0, 9, Check.set(2));
        x.know(4, 3, true);
        due("nobody needs one", x, 0, 0, 0);
        likeOnes();
        need();
        none();
        remembered();
        refusals();
        Check.end("promise 17");
    }

    private static void due(String why, HeavierToCome x, int b, int price, int set) {
        Check.due(why + ": hired(" + b + ", 0)", x.hired(b, 0), price);
        Check.due(why + ": hired(" + b + ", 1)", x.hired(b, 1), set);
    }

    private static void likeOnes() {
        String two = "bridge 1;man 5 0;man 5 0;";
        due("of two as cheap the least SET", Check.made(two + "ox 6 3;ox 7 3;"), 0, 3, Check.set(0));
        due("the cheaper one", Check.made(two + "ox 6 3;ox 7 2;"), 0, 2, Check.set(1));
        due("one is enough, another for nothing", Check.made(two + "ox 5 0;ox 7 2;"), 0, 2, Check.set(1));
        due("for nothing", Check.made(two + "ox 5 0;ox 7 0;ox 8 0;"), 0, 0, Check.set(1));
        due("the last one", Check.made(two + "ox 5 0;ox 4 0;ox 5 0;ox 3 0;ox 6 999;"), 0, 999, Check.set(4));
        due("nobody needs the one for nothing", Check.made("bridge 1;man 5 0;ox 9 0;"), 0, 0, 0);
        due("no TRAVELLERS", Check.made("bridge 1;ox 9 0;"), 0, 0, 0);
    }

    private static void need() {
        due("heavier by 1", Check.made("bridge 1;man 5 0;man 5 0;man 4 0;ox 5 1;ox 6 9;"), 0, 9, Check.set(1));
        due("the one of 5 knows of the one of 6", Check.made("bridge 1;man 5 0;man 6 0;man 3 0;knows 0 1;ox 4 1;ox 7 9;"), 0, 1, Check.set(0));
        HeavierToCome x = Check.made("bridge 1;man 8 0;man 3 0;ox 9 7;ox 4 2;");
        due("the heaviest goes alone", x, 0, 2, Check.set(1));
        x.cross(0, 0, -1);
        due("he is OVER", x, 0, 2, Check.set(1));
        x.evening();
        due("he has gone alone in this YEAR", x, 0, 7, Check.set(0));
        due("OXEN do not make him less the heaviest", Check.made("bridge 1;man 8 0;ox 999 0;"), 0, 0, 0);
    }

    private static void none() {
        due("no OXEN", Check.made("bridge 1;man 5 0;man 5 0;"), 0, Check.NONE, Check.NONE);
        due("none that is heavier", Check.made("bridge 1;man 5 0;man 5 0;ox 5 0;ox 4 0;"), 0, Check.NONE, Check.NONE);
    }

    private static void remembered() {
        HeavierToCome x = Check.made("bridge 1;bridge 1;man 5 0;man 6 0;knows 0 1;ox 9 0;");
        due("ahead of the LIE", x, 0, 0, 0);
        x.cross(0, 0, 1);
        x.evening();
        due("0 is REMEMBERED, no OX helps", x, 0, Check.NONE, Check.NONE);
        due("at the other BRIDGE he is not", x, 1, 0, 0);
        x.evening();
        due("0 is forgotten", x, 0, 0, 0);
        x.know(0, 1, false);
        due("0 knows of nobody", x, 0, 0, Check.set(0));
        x.cross(1, 0, -1);
        due("0 lives no more", x, 0, 0, 0);
    }

    private static void refusals() {
        HeavierToCome x = Check.made(Check.HILLS);
        Check.refused(x, "hired(2, 0)", () -> x.hired(2, 0), Check.UNKNOWN);
        Check.refused(x, "hired(-1, 1)", () -> x.hired(-1, 1), Check.UNKNOWN);
        Check.refused(x, "hired(2, 2)", () -> x.hired(2, 2), Check.UNKNOWN);
        Check.refused(x, "hired(0, 2)", () -> x.hired(0, 2), Check.OUTSIDE);
        Check.refused(x, "hired(0, -1)", () -> x.hired(0, -1), Check.OUTSIDE);
        for (int out : Check.FAR_OUT) {
            Check.due("hired(" + out + ", 0)", x.hired(out, 0), Check.UNKNOWN);
            Check.due("hired(0, " + out + ")", x.hired(0, out), Check.OUTSIDE);
        }
        HeavierToCome y = Check.made("bridge 1;man 5 0;man 5 0;");
        Check.refused(y, "hired(0, 2) where no OXEN help", () -> y.hired(0, 2), Check.OUTSIDE);
    }
}
