public final class Promise10CrossTest {
    public static void main(String[] args) {
        byName();
        alone();
        years();
        remembered();
        refusals();
        Check.end("promise 10");
    }

    private static void byName() {
        HeavierToCome x = Check.made(Check.HILLS);
        Check.due("0 NAMES the heavier 1", x.cross(0, 0, 1), 1);
        Check.due("bridge(0, 1)", x.bridge(0, 1), Check.set(0));
        Check.due("1 NAMES 4, who is as heavy", x.cross(0, 1, 4), 0);
        Check.due("told(6)", x.told(6), Check.set(0, 2, 3, 4));
        x = Check.made(Check.HILLS);
        x.know(2, 0, true);
        Check.due("2 NAMES 0, who is lighter", x.cross(0, 2, 0), 0);
        x = Check.made(Check.HILLS);
        x.cross(0, 3, -1);
        Check.due("2 NAMES 3, who is OVER", x.cross(0, 2, 3), 0);
        Check.due("1 NAMES 3, who is OVER another BRIDGE", x.cross(1, 1, 3), 1);
        x = Check.made(Check.HILLS);
        x.cross(1, 1, -1);
        Check.due("0 NAMES 1, who lives no more", x.cross(0, 0, 1), 0);
        x = Check.made("bridge 0;man 1 0;man 2 0;knows 0 1;");
        Check.due("one NAMES one who never comes", x.cross(0, 0, 1), 1);
        x.evening();
        Check.due("the next DAY the liar is EATEN", x.cross(0, 0, 1), 0);
        x = Check.made("bridge 1;man 998 0;man 999 0;knows 0 1;");
        Check.due("heavier by 1", x.cross(0, 0, 1), 1);
        Check.due("who was NAMED comes by himself", x.cross(0, 1, -1), 1);
        x.evening();
        Check.due("who did not LIE crosses again", x.cross(0, 0, 1), 1);
    }

    private static void alone() {
        HeavierToCome x = Check.made(Check.HILLS);
        Check.due("the heaviest", x.cross(0, 3, -1), 1);
        Check.due("one with a heavier one who lives, though OVER", x.cross(0, 2, -1), 0);
        x = Check.made("bridge 1;man 5 0;man 5 0;");
        Check.due("one with one as heavy", x.cross(0, 0, -1), 0);
        Check.due("the other one then", x.cross(0, 1, -1), 1);
        x = Check.made("bridge 1;man 4 0;man 5 0;");
        Check.due("the lighter one", x.cross(0, 0, -1), 0);
        Check.due("the heavier one", x.cross(0, 1, -1), 1);
        x = Check.made("bridge 1;bridge 1;man 4 0;man 5 0;");
        x.cross(0, 1, -1);
        x.evening();
        x.cross(0, 1, -1);
        Check.due("the heaviest was EATEN", x.told(6), Check.set(0));
        Check.due("the next one is the heaviest now", x.cross(0, 0, -1), 1);
        x = Check.made("bridge 1;man 1 0;");
        Check.due("the only one", x.cross(0, 0, -1), 1);
    }

    private static void years() {
        HeavierToCome x = Check.made("year 2;bridge 1;bridge 1;man 1 0;");
        Check.due("DAY 0", x.cross(0, 0, -1), 1);
        Check.due("DAY 0 at the other BRIDGE", x.cross(1, 0, -1), 1);
        x.evening();
        x.evening();
        Check.due("DAY 2", x.cross(0, 0, -1), 1);
        x.evening();
        Check.due("DAY 3 at the other BRIDGE", x.cross(1, 0, -1), 1);
        x.evening();
        Check.due("DAY 4 at the other BRIDGE: another YEAR a DAY behind", x.cross(1, 0, -1), 1);
        x.evening();
        Check.due("DAY 5 at the other BRIDGE: the same YEAR", x.cross(1, 0, -1), 0);
        untoldYear();
    }

    private static void untoldYear() {
        HeavierToCome x = Check.made("bridge 1;man 1 0;");
        for (int day = 0; day < 9; day++) {
            x.evening();
        }
        Check.due("DAY 9", x.cross(0, 0, -1), 1);
        x.evening();
        Check.due("DAY 10", x.cross(0, 0, -1), 1);
        for (int day = 10; day < 19; day++) {
            x.evening();
        }
        Check.due("DAY 19", x.cross(0, 0, -1), 0);
    }

    private static void remembered() {
        HeavierToCome x = Check.made("bridge 2;bridge 2;man 1 0;man 2 0;man 3 0;knows 0 1,2;knows 1 2;");
        x.cross(0, 0, 1);
        x.cross(0, 1, 2);
        x.evening();
        Check.due("bridge(0, 2)", x.bridge(0, 2), Check.set(1));
        Check.due("who did not LIE", x.cross(0, 0, 2), 1);
        Check.due("who LIED, at another BRIDGE", x.cross(1, 1, 2), 1);
        Check.due("who LIED, there", x.cross(0, 1, 2), 0);
        x = Check.made("bridge 2;bridge 1;man 1 0;man 2 0;knows 0 1;");
        x.cross(0, 0, 1);
        x.evening();
        x.cross(1, 1, -1);
        x.evening();
        x.cross(1, 1, -1);
        Check.due("the heavier one was EATEN", x.told(6), Check.set(0));
        Check.due("bridge(0, 2)", x.bridge(0, 2), Check.set(0));
        Check.due("who is REMEMBERED goes by himself", x.cross(0, 0, -1), 1);
    }

    private static void refusals() {
        HeavierToCome x = Check.made(Check.HILLS);
        x.cross(0, 0, 1);
        x.cross(1, 1, -1);
        Check.refused(x, "cross(2, 2, 3)", () -> x.cross(2, 2, 3), Check.UNKNOWN);
        Check.refused(x, "cross(-1, 2, 3)", () -> x.cross(-1, 2, 3), Check.UNKNOWN);
        Check.refused(x, "cross(0, 5, 3)", () -> x.cross(0, 5, 3), Check.UNKNOWN);
        Check.refused(x, "cross(0, -1, 3)", () -> x.cross(0, -1, 3), Check.UNKNOWN);
        Check.refused(x, "cross(0, -1, -1)", () -> x.cross(0, -1, -1), Check.UNKNOWN);
        Check.refused(x, "cross(0, 2, 5)", () -> x.cross(0, 2, 5), Check.UNKNOWN);
        Check.refused(x, "cross(0, 2, -2)", () -> x.cross(0, 2, -2), Check.UNKNOWN);
        Check.refused(x, "cross(0, 2, 2)", () -> x.cross(0, 2, 2), Check.UNKNOWN);
        Check.refused(x, "cross(0, 0, 0), who is OVER", () -> x.cross(0, 0, 0), Check.UNKNOWN);
        Check.refused(x, "cross(0, 1, 7), who lives no more", () -> x.cross(0, 1, 7), Check.UNKNOWN);
        Check.refused(x, "cross(0, 0, 2), who is OVER", () -> x.cross(0, 0, 2), Check.NOT);
        Check.refused(x, "cross(0, 0, -1), who is OVER", () -> x.cross(0, 0, -1), Check.NOT);
        Check.refused(x, "cross(0, 1, 3), who lives no more", () -> x.cross(0, 1, 3), Check.NOT);
        Check.refused(x, "cross(0, 1, -1), who lives no more", () -> x.cross(0, 1, -1), Check.NOT);
        Check.refused(x, "cross(0, 2, 1), of whom he does not know", () -> x.cross(0, 2, 1), Check.NOT);
        for (int out : Check.FAR_OUT) {
            Check.due("cross(" + out + ", 2, 3)", x.cross(out, 2, 3), Check.UNKNOWN);
            Check.due("cross(0, " + out + ", 3)", x.cross(0, out, 3), Check.UNKNOWN);
            Check.due("cross(0, 2, " + out + ")", x.cross(0, 2, out), Check.UNKNOWN);
        }
        Check.due("all the others live", x.told(6), Check.set(0, 2, 3, 4));
    }
}
