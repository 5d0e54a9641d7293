public final class Promise23RowTest {
    public static void main(String[] args) {
        HeavierToCome x = Check.made(Check.HILLS);
        Check.due("row(0, 1)", x.row(0, 1), 1);
        Check.due("row(1, NONE)", x.row(1, Check.NONE), 2);
        Check.due("row(0, 2): one who is in it already", x.row(0, 2), 3);
        Check.due("row(3, 0): one whom he does not know", x.row(3, 0), 4);
        Check.due("told(8)", x.told(8), 4);
        Check.due("nobody crosses by it", x.bridge(0, 1), 0);
        x.cross(0, 4, -1);
        Check.due("row(4, 1): one who lives no more", x.row(4, 1), 5);
        Check.due("row(1, 4): NAMES one who lives no more", x.row(1, 4), 6);
        Check.refused(x, "row(2, 3), the seventh", () -> x.row(2, 3), Check.FULL);
        Check.refused(x, "row(2, NONE), the seventh", () -> x.row(2, Check.NONE), Check.FULL);
        Check.refused(x, "row(2, 2), the seventh", () -> x.row(2, 2), Check.UNKNOWN);
        Check.refused(x, "row(5, 2), the seventh", () -> x.row(5, 2), Check.UNKNOWN);
        Check.due("odds() of NAMED 0, 1, 2, 4", x.odds(), 360000000);
        Check.due("tear()", x.tear(), 6);
        Check.due("row(2, 3) behind tear()", x.row(2, 3), 1);
        Check.due("odds() of NAMED 3", x.odds(), 200000000);
        refusals();
        Check.end("promise 23");
    }

    private static void refusals() {
        HeavierToCome x = Check.made(Check.HILLS);
        Check.refused(x, "row(5, 0)", () -> x.row(5, 0), Check.UNKNOWN);
        Check.refused(x, "row(-1, 0)", () -> x.row(-1, 0), Check.UNKNOWN);
        Check.refused(x, "row(-1, NONE)", () -> x.row(-1, Check.NONE), Check.UNKNOWN);
        Check.refused(x, "row(5, NONE)", () -> x.row(5, Check.NONE), Check.UNKNOWN);
        Check.refused(x, "row(0, 5)", () -> x.row(0, 5), Check.UNKNOWN);
        Check.refused(x, "row(0, -2)", () -> x.row(0, -2), Check.UNKNOWN);
        Check.refused(x, "row(3, 3)", () -> x.row(3, 3), Check.UNKNOWN);
        HeavierToCome y = Check.made(Check.HILLS);
        for (int out : Check.FAR_OUT) {
            Check.due("row(" + out + ", 0)", y.row(out, 0), Check.UNKNOWN);
            Check.due("row(0, " + out + ")", y.row(0, out), Check.UNKNOWN);
        }
        Check.due("told(8)", y.told(8), 0);
        HeavierToCome none = new HeavierToCome();
        Check.refused(none, "row(0, NONE) without TRAVELLERS", () -> none.row(0, Check.NONE), Check.UNKNOWN);
    }
}
