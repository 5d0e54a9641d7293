public final class Promise19WhomTest {
    public static void main(String[] args) {
        HeavierToCome x = Check.made(Check.HILLS);
        Check.due("whom(0, 0): 2 comes by 80, 1 by 50", x.whom(0, 0), 2);
        Check.due("whom(0, 1): 4 is not heavier", x.whom(0, 1), 3);
        Check.due("whom(0, 2)", x.whom(0, 2), 3);
        Check.due("whom(0, 3): he knows of nobody", x.whom(0, 3), Check.NONE);
        Check.due("whom(0, 4): 1 is as heavy", x.whom(0, 4), Check.NONE);
        x.know(0, 4, true);
        Check.due("whom(0, 0): 4 comes by 100", x.whom(0, 0), 4);
        x.know(3, 0, true);
        Check.due("whom(0, 3): 0 is lighter", x.whom(0, 3), Check.NONE);
        likeOnes();
        now();
        refusals();
        Check.end("promise 19");
    }

    private static void likeOnes() {
        Check.due("of like ones the least", Check.made("bridge 1;man 1 9;man 2 7;man 3 7;man 4 6;knows 0 3,2,1;").whom(0, 0), 1);
        Check.due("the last one", Check.made("bridge 1;man 1 9;man 2 7;man 3 7;man 4 8;knows 0 3,2,1;").whom(0, 0), 3);
        Check.due("one who never comes", Check.made("bridge 1;man 1 9;man 2 0;man 3 0;knows 0 2,1;").whom(0, 0), 1);
        Check.due("the first one", Check.made("bridge 1;man 3 9;man 1 7;man 2 8;knows 1 0,2;").whom(0, 1), 0);
        Check.due("he himself is not one", Check.made("bridge 1;man 1 100;man 2 0;knows 0 1;").whom(0, 0), 1);
    }

    private static void now() {
        HeavierToCome x = Check.made(Check.HILLS);
        x.cross(0, 2, 3);
        Check.due("2 is OVER", x.whom(0, 0), 1);
        Check.due("but not over 1", x.whom(1, 0), 2);
        x.cross(1, 1, -1);
        Check.due("1 lives no more", x.whom(0, 0), Check.NONE);
        x.evening();
        Check.due("2 LIED and is REMEMBERED", x.whom(0, 2), Check.NONE);
        Check.due("2 at the other BRIDGE", x.whom(1, 2), 3);
        Check.due("0 NAMES 2, who is REMEMBERED", x.whom(0, 0), 2);
        x.cross(0, 3, -1);
        x.evening();
        Check.due("3 has gone alone, but may be NAMED", x.whom(1, 2), 3);
    }

    private static void refusals() {
        HeavierToCome x = Check.made(Check.HILLS);
        x.cross(0, 0, 1);
        x.cross(1, 1, -1);
        Check.refused(x, "whom(2, 0)", () -> x.whom(2, 0), Check.UNKNOWN);
        Check.refused(x, "whom(-1, 0)", () -> x.whom(-1, 0), Check.UNKNOWN);
        Check.refused(x, "whom(0, 5)", () -> x.whom(0, 5), Check.UNKNOWN);
        Check.refused(x, "whom(0, -1)", () -> x.whom(0, -1), Check.UNKNOWN);
        Check.refused(x, "whom(2, 1) of one who lives no more", () -> x.whom(2, 1), Check.UNKNOWN);
        Check.refused(x, "whom(0, 0) of one who is OVER", () -> x.whom(0, 0), Check.NOT);
        Check.refused(x, "whom(0, 1) of one who lives no more", () -> x.whom(0, 1), Check.NOT);
        Check.refused(x, "whom(1, 1) of one who lives no more", () -> x.whom(1, 1), Check.NOT);
        Check.due("whom(1, 0): he is not OVER there", x.whom(1, 0), 2);
        for (int out : Check.FAR_OUT) {
            Check.due("whom(" + out + ", 2)", x.whom(out, 2), Check.UNKNOWN);
            Check.due("whom(0, " + out + ")", x.whom(0, out), Check.UNKNOWN);
        }
    }
}
