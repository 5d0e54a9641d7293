public final class Promise09NamedTest {
    public static void main(String[] args) {
        HeavierToCome x = Check.made(Check.HILLS);
        x.cross(0, 0, 1);
        x.cross(1, 0, 2);
        x.cross(0, 3, -1);
        Check.due("named(0, 0)", x.named(0, 0), 1);
        Check.due("named(1, 0)", x.named(1, 0), 2);
        Check.due("named(0, 3)", x.named(0, 3), Check.NONE);
        x.cross(1, 1, -1);
        Check.due("named(0, 0): he whom he NAMED lives no more", x.named(0, 0), 1);
        Check.refused(x, "named(1, 3)", () -> x.named(1, 3), Check.NOT);
        Check.refused(x, "named(0, 1)", () -> x.named(0, 1), Check.NOT);
        Check.refused(x, "named(1, 1): EATEN there", () -> x.named(1, 1), Check.NOT);
        Check.refused(x, "named(2, 0)", () -> x.named(2, 0), Check.UNKNOWN);
        Check.refused(x, "named(-1, 0)", () -> x.named(-1, 0), Check.UNKNOWN);
        Check.refused(x, "named(0, 5)", () -> x.named(0, 5), Check.UNKNOWN);
        Check.refused(x, "named(0, -1)", () -> x.named(0, -1), Check.UNKNOWN);
        for (int out : Check.FAR_OUT) {
            Check.due("named(" + out + ", 0)", x.named(out, 0), Check.UNKNOWN);
            Check.due("named(0, " + out + ")", x.named(0, out), Check.UNKNOWN);
        }
        x.evening();
        Check.refused(x, "named(0, 0) next DAY", () -> x.named(0, 0), Check.NOT);
        Check.refused(x, "named(0, 3) next DAY", () -> x.named(0, 3), Check.NOT);
        overAndGone();
        Check.end("promise 9");
    }

    private static void overAndGone() {
        HeavierToCome x = Check.made(Check.HILLS);
        x.cross(0, 0, 2);
        x.cross(1, 0, -1);
        Check.due("told(6)", x.told(6), Check.set(1, 2, 3, 4));
        Check.due("named(0, 0) who is OVER, but lives no more", x.named(0, 0), 2);
    }
}
