public final class Promise14MostTest {
    public static void main(String[] args) {
        HeavierToCome x = Check.made(Check.HILLS);
        due("4 cannot be LET GO", x, 0, 0, 1, 2, 3);
        x.know(4, 3, true);
        due("all", x, 0, 0, 1, 2, 4, 3);
        due("at the other BRIDGE", x, 1, 0, 1, 2, 4, 3);
        orderOfLikeOnes();
        whoDropsOut();
        ofThisDay();
        remembered();
        refusals();
        Check.end("promise 14");
    }

    private static void due(String why, HeavierToCome x, int b, int... row) {
        Check.due(why + ": most(" + b + ", NONE)", x.most(b, Check.NONE), row.length);
        for (int i = 0; i < row.length; i++) {
            Check.due(why + ": most(" + b + ", " + i + ")", x.most(b, i), row[i]);
        }
        for (int i = row.length; i < 8; i++) {
            Check.due(why + ": most(" + b + ", " + i + ")", x.most(b, i), Check.NONE);
        }
    }

    private static void orderOfLikeOnes() {
        due("who is NAMED is behind", Check.made("bridge 1;man 9 0;man 5 0;knows 1 0;"), 0, 1, 0);
        due("a chain", Check.made("bridge 1;man 3 0;man 2 0;man 1 0;knows 2 1;knows 1 0;"), 0, 2, 1, 0);
        due("the one whom 2 needs", Check.made("bridge 1;man 6 0;man 7 0;man 5 0;knows 0 1;knows 2 0;"), 0, 2, 0, 1);
        due("2 has another one", Check.made("bridge 1;man 6 0;man 7 0;man 5 0;knows 0 1;knows 2 0,1;"), 0, 0, 2, 1);
        due("six", Check.made("bridge 1;man 1 0;man 2 0;man 3 0;man 4 0;man 5 0;man 6 0;"
                + "knows 0 5;knows 1 5;knows 2 5;knows 3 5;knows 4 5;"), 0, 0, 1, 2, 3, 4, 5);
        due("six, the heaviest first told", Check.made("bridge 1;man 6 0;man 5 0;man 4 0;man 3 0;man 2 0;man 1 0;"
                + "knows 1 0;knows 2 1;knows 3 2;knows 4 3;knows 5 4;"), 0, 5, 4, 3, 2, 1, 0);
    }

    private static void whoDropsOut() {
        due("0 falls with 1", Check.made("bridge 1;man 1 0;man 2 0;man 3 0;knows 0 1;"), 0, 2);
        due("a long fall", Check.made("bridge 1;man 1 0;man 2 0;man 3 0;man 4 0;man 5 0;man 6 0;"
                + "knows 0 1;knows 1 2;knows 2 3;knows 3 4;"), 0, 5);
        due("none alone", Check.made("bridge 1;man 5 0;man 5 0;man 4 0;knows 2 0,1;knows 0 1;knows 1 0;"), 0);
        due("no TRAVELLERS", Check.made("bridge 1;"), 0);
        due("knows a lighter one alone", Check.made("bridge 1;man 5 0;man 4 0;man 3 0;knows 1 2;knows 0 1;"), 0, 0);
    }

    private static void ofThisDay() {
        HeavierToCome x = Check.made(Check.HILLS);
        x.cross(0, 2, 3);
        due("2 is OVER", x, 0, 0, 1, 3);
        due("but not over 1", x, 1, 0, 1, 2, 3);
        x.cross(0, 3, -1);
        due("nobody may NAME 3", x, 0);
        x.cross(1, 1, -1);
        due("1 lives no more", x, 1, 0, 2, 3);
        x.evening();
        due("3 has gone alone in this YEAR", x, 0);
        due("but not over 1", x, 1, 0, 2, 3);
        x.evening();
        x.evening();
        due("another YEAR", x, 0, 0, 2, 3);
    }

    private static void remembered() {
        HeavierToCome x = Check.made("bridge 1;man 5 0;man 6 0;knows 0 1;");
        x.cross(0, 0, 1);
        x.evening();
        due("0 is REMEMBERED", x, 0, 1);
        x.evening();
        due("0 is forgotten", x, 0, 0, 1);
    }

    private static void refusals() {
        HeavierToCome x = Check.made(Check.HILLS);
        Check.refused(x, "most(2, 0)", () -> x.most(2, 0), Check.UNKNOWN);
        Check.refused(x, "most(-1, 0)", () -> x.most(-1, 0), Check.UNKNOWN);
        Check.refused(x, "most(2, NONE)", () -> x.most(2, Check.NONE), Check.UNKNOWN);
        for (int out : Check.FAR_OUT) {
            Check.due("most(" + out + ", 0)", x.most(out, 0), Check.UNKNOWN);
            Check.due("most(0, " + out + ")", x.most(0, out), Check.NONE);
        }
    }
}
