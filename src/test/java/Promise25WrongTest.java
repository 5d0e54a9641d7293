public final class Promise25WrongTest {
    public static void main(String[] args) {
        HeavierToCome x = Check.made(Check.HILLS);
        Check.due("no ROW", x.wrong(0), Check.NONE);
        due("all as it should", x, Check.NONE, 0, 2, 2, 3, 1, 3, 3, -1);
        due("4 NAMES 1, who is as heavy", x, 4, 0, 2, 2, 3, 1, 3, 3, -1, 4, 1);
        due("who is NAMED comes no more", x, 1, 3, -1, 0, 1);
        due("the first who LIES", x, 0, 0, 1, 2, 3);
        due("0 NAMES who does come, 2 does not", x, 1, 0, 1, 2, 3, 1, 3);
        due("who NAMES one who is OVER by then", x, 1, 3, -1, 2, 3);
        due("who is EATEN tells ahead of who LIES", x, 2, 0, 1, 2, 3, 4, -1);
        due("who NAMES one who is OVER by then, behind one who LIES", x, 2, 0, 1, 3, -1, 2, 3);
        due("one twice: he is OVER by then", x, 2, 0, 1, 1, 3, 0, 1, 3, -1);
        due("one twice, one behind the other", x, 1, 0, 1, 0, 1, 1, 3, 3, -1);
        due("whom he does not know", x, 0, 0, 3, 3, -1);
        due("a lighter one", x, 0, 2, 0, 0, 1, 3, -1);
        due("alone with a heavier one", x, 1, 3, -1, 2, -1);
        due("the heaviest alone", x, Check.NONE, 3, -1);
        due("behind, but not next to him", x, Check.NONE, 0, 1, 2, 3, 1, 3, 3, -1);
        traveller0IsNamed();
        now();
        remembered();
        refusals();
        Check.end("promise 25");
    }

    /** THE ROW anew, of pairs: who crosses, whom he NAMES. */
    private static void due(String why, HeavierToCome x, int want, int... row) {
        x.tear();
        for (int k = 0; k + 1 < row.length; k += 2) {
            x.row(row[k], row[k + 1]);
        }
        Check.due(why + ": wrong(0)", x.wrong(0), want);
        Check.due("nobody is OVER by it", x.told(6), 31);
    }

    private static void now() {
        HeavierToCome x = Check.made(Check.HILLS);
        x.row(0, 1);
        x.row(1, 3);
        x.row(3, -1);
        Check.due("wrong(0)", x.wrong(0), Check.NONE);
        Check.due("wrong(1)", x.wrong(1), Check.NONE);
        x.keep(0);
        x.cross(0, 3, -1);
        Check.due("3 is OVER", x.wrong(0), 1);
        Check.due("but not over 1", x.wrong(1), Check.NONE);
        x.evening();
        Check.due("3 has gone alone in this YEAR", x.wrong(0), 2);
        x.cross(1, 1, -1);
        Check.due("1 lives no more: 0 cannot NAME him", x.wrong(1), 0);
        x.goBack(0);
        x.know(1, 3, false);
        Check.due("1 does not know of 3", x.wrong(0), 1);
        x.tear();
        x.row(2, 3);
        x.row(1, -1);
        x.cross(1, 1, -1);
        Check.due("who crosses lives no more", x.wrong(0), 1);
        x.tear();
        x.row(2, 3);
        x.row(3, -1);
        x.cross(0, 2, 3);
        Check.due("who crosses is OVER", x.wrong(0), 0);
    }

    private static void traveller0IsNamed() {
        HeavierToCome x = Check.made("bridge 1;man 9 0;man 1 0;man 2 0;knows 1 0,2;knows 2 0;");
        x.row(1, 2);
        x.row(2, 0);
        Check.due("0 does not come", x.wrong(0), 1);
        x.row(0, -1);
        Check.due("0 comes", x.wrong(0), Check.NONE);
    }

    private static void remembered() {
        HeavierToCome x = Check.made("bridge 1;bridge 1;man 5 0;man 6 0;knows 0 1;");
        x.row(0, 1);
        x.row(1, -1);
        x.cross(0, 0, 1);
        x.evening();
        Check.due("0 is REMEMBERED", x.wrong(0), 0);
        Check.due("not at the other BRIDGE", x.wrong(1), Check.NONE);
        x.evening();
        Check.due("0 is forgotten", x.wrong(0), Check.NONE);
    }

    private static void refusals() {
        HeavierToCome x = Check.made(Check.HILLS);
        x.row(0, 1);
        Check.refused(x, "wrong(2)", () -> x.wrong(2), Check.UNKNOWN);
        Check.refused(x, "wrong(-1)", () -> x.wrong(-1), Check.UNKNOWN);
        for (int out : Check.FAR_OUT) {
            Check.due("wrong(" + out + ")", x.wrong(out), Check.UNKNOWN);
        }
        HeavierToCome none = new HeavierToCome();
        Check.refused(none, "wrong(0) without BRIDGES", () -> none.wrong(0), Check.UNKNOWN);
    }
}
