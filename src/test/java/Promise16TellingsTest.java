public final class Promise16TellingsTest {
    public static void main(String[] args) {
        HeavierToCome x = Check.made(Check.HILLS);
        Check.due("4 must be told", x.tellings(0), 1);
        x.know(4, 3, true);
        Check.due("nobody must be told", x.tellings(0), 0);
        x.know(4, 3, false);
        x.know(2, 3, false);
        x.know(0, 1, false);
        Check.due("2 and 4 must be told", x.tellings(0), 2);
        x.know(0, 2, false);
        Check.due("0, 2 and 4 must be told", x.tellings(1), 3);
        noKnowledge();
        byNoTelling();
        ofThisDay();
        refusals();
        Check.end("promise 16");
    }

    private static void noKnowledge() {
        Check.due("no TRAVELLERS", Check.made("bridge 1;").tellings(0), 0);
        Check.due("one", Check.made("bridge 1;man 1 1;").tellings(0), 0);
        Check.due("two", Check.made("bridge 1;man 1 1;man 2 1;").tellings(0), 1);
        Check.due("six", Check.made("bridge 1;man 1 1;man 2 1;man 2 1;man 2 1;man 2 1;man 6 1;").tellings(0), 5);
        Check.due("who knows of a lighter one alone",
                Check.made("bridge 1;man 1 1;man 2 1;man 3 1;knows 1 0;knows 0 1;knows 2 0,1;").tellings(0), 1);
    }

    private static void byNoTelling() {
        Check.due("two as heavy", Check.made("bridge 1;man 2 1;man 2 1;man 1 1;knows 0 1;").tellings(0), Check.NONE);
        HeavierToCome x = Check.made("bridge 1;man 5 0;man 6 0;knows 0 1;");
        x.cross(0, 0, 1);
        x.evening();
        Check.due("0 is REMEMBERED", x.tellings(0), Check.NONE);
        x.evening();
        Check.due("0 is forgotten", x.tellings(0), 0);
        x.cross(0, 1, -1);
        Check.due("the heaviest is OVER", x.tellings(0), Check.NONE);
        x.evening();
        Check.due("the heaviest has gone alone in this YEAR", x.tellings(0), Check.NONE);
    }

    private static void ofThisDay() {
        HeavierToCome x = Check.made(Check.HILLS);
        x.cross(0, 4, 1);
        Check.due("4, who must be told, was EATEN", x.tellings(0), 0);
        x.know(1, 3, false);
        Check.due("1 must be told", x.tellings(0), 1);
        x.know(1, 3, true);
        x.cross(0, 1, 3);
        Check.due("0 has 2 still", x.tellings(0), 0);
        x.know(0, 2, false);
        Check.due("0 knows of 1 alone, who is OVER", x.tellings(0), 1);
        Check.due("at the other BRIDGE he is to come", x.tellings(1), 0);
    }

    private static void refusals() {
        HeavierToCome x = Check.made(Check.HILLS);
        Check.refused(x, "tellings(2)", () -> x.tellings(2), Check.UNKNOWN);
        Check.refused(x, "tellings(-1)", () -> x.tellings(-1), Check.UNKNOWN);
        for (int out : Check.FAR_OUT) {
            Check.due("tellings(" + out + ")", x.tellings(out), Check.UNKNOWN);
        }
        HeavierToCome none = new HeavierToCome();
        Check.refused(none, "tellings(0) without BRIDGES", () -> none.tellings(0), Check.UNKNOWN);
    }
}
