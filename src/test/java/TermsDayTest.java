/** The term THE DAY (2): each sentence that names an edge, with both sides of it. */
public final class TermsDayTest {
    private static final int NONE = Check.NONE;

    public static void main(String[] args) {
        dayZeroAtFirst();
        aYearBeginsWithEachNth();
        eachLivesAtFirst();
        overOnThisDay();
        overThisBridge();
        heavierByOne();
        whoIsNamedLives();
        whoIsNamedIsNotOver();
        notRememberedThere();
        rememberedByHimself();
        nobodyAsHeavy();
        nobodyWhoLives();
        byHimselfOncePerBridge();
        onlySoByHimself();
        eatenLivesNoMore();
        lies();
        noLies();
        notOverByThen();
        fromTheNextDayOn();
        forEver();
        theLatestLie();
        rememberedThereAlone();
        theDayIsOneMore();
        Check.end("terms, the day");
    }

    private static void days(HeavierToCome x, int count) {
        for (int k = 0; k < count; k++) {
            x.evening();
        }
    }

    /** A call that is tried and taken back, by IMAGE 1. */
    private static int tried(HeavierToCome x, int b, int t, int u) {
        x.keep(1);
        int answer = x.cross(b, t, u);
        x.goBack(1);
        return answer;
    }

    /** "THE DAY is 0 at first". */
    private static void dayZeroAtFirst() {
        HeavierToCome x = new HeavierToCome();
        Check.due("told(5) of a new object", x.told(5), 0);
        days(x, 3);
        Check.due("told(5)", x.told(5), 3);
        Check.told(x, Check.HILLS);
        Check.due("told(5) of THE HILLS", x.told(5), 0);
    }

    /** "a YEAR begins with each N-th": the last DAY of one is still of it, the next one is not. */
    private static void aYearBeginsWithEachNth() {
        for (int n : new int[] {1, 2, 3, 9, 10, 11, 50, 98, 99}) {
            HeavierToCome x = Check.made((n == 10 ? "" : "year " + n + ";") + "bridge 1;man 5 5;");
            Check.due("DAY 0 of " + n, x.cross(0, 0, NONE), 1);
            for (int year = 1; year <= 2; year++) {
                days(x, n - 1);
                Check.due("the last DAY of the YEAR " + (year - 1) + " of " + n, n == 1 ? 0 : tried(x, 0, 0, NONE), 0);
                days(x, 1);
                Check.due("told(5)", x.told(5), year * n);
                Check.due("the first DAY of the YEAR " + year + " of " + n, x.cross(0, 0, NONE), 1);
            }
        }
        // Gone on the last DAY of a YEAR and on the first of the next, but not on the second.
        HeavierToCome x = Check.made("year 5;bridge 1;man 5 5;");
        days(x, 4);
        Check.due("DAY 4", x.cross(0, 0, NONE), 1);
        days(x, 1);
        Check.due("DAY 5", x.cross(0, 0, NONE), 1);
        days(x, 1);
        Check.due("DAY 6", tried(x, 0, 0, NONE), 0);
        days(x, 3);
        Check.due("DAY 9", tried(x, 0, 0, NONE), 0);
        days(x, 1);
        Check.due("DAY 10", x.cross(0, 0, NONE), 1);
    }

    /** "Each TRAVELLER lives at first". */
    private static void eachLivesAtFirst() {
        for (int men = 0; men <= 6; men++) {
            HeavierToCome x = Check.made("man 5 0;".repeat(men));
            Check.due("told(6) of " + men, x.told(6), (1 << men) - 1);
            for (int t = 0; t < men; t++) {
                Check.due("man(" + t + ", 2) of " + men, x.man(t, 2), 1);
            }
        }
    }

    /** "on a DAY he is OVER a BRIDGE when he has crossed it"; who "is not OVER it this DAY" may cross. */
    private static void overOnThisDay() {
        HeavierToCome x = Check.made(Check.HILLS);
        Check.due("bridge(0, 1) ahead of it", x.bridge(0, 1), 0);
        Check.due("named(0, 0) ahead of it", x.named(0, 0), Check.NOT);
        Check.due("cross(0, 0, 2)", x.cross(0, 0, 2), 1);
        Check.due("bridge(0, 1) behind it", x.bridge(0, 1), 1);
        Check.due("named(0, 0) behind it", x.named(0, 0), 2);
        Check.due("cross(0, 0, 1) on this DAY", x.cross(0, 0, 1), Check.NOT);
        Check.due("cross(0, 2, 3)", x.cross(0, 2, 3), 1);
        Check.due("cross(0, 3, NONE)", x.cross(0, 3, NONE), 1);
        x.evening();
        Check.due("bridge(0, 1) on the next DAY", x.bridge(0, 1), 0);
        Check.due("named(0, 0) on the next DAY", x.named(0, 0), Check.NOT);
        Check.due("cross(0, 0, 2) on the next DAY", x.cross(0, 0, 2), 1);
    }

    private static void overThisBridge() {
        HeavierToCome x = Check.made(Check.HILLS);
        Check.due("cross(0, 0, 2)", x.cross(0, 0, 2), 1);
        Check.due("bridge(1, 1)", x.bridge(1, 1), 0);
        Check.due("cross(1, 0, 2) on the same DAY", x.cross(1, 0, 2), 1);
        Check.due("bridge(1, 1)", x.bridge(1, 1), 1);
        Check.due("who was EATEN has not crossed", x.cross(1, 4, NONE), 0);
        Check.due("bridge(1, 1) without 4", x.bridge(1, 1), 1);
        Check.due("named(1, 4)", x.named(1, 4), Check.NOT);
    }

    /** "the one he NAMES is heavier": by one, as heavy, lighter by one. */
    private static void heavierByOne() {
        int[] weights = {1, 2, 500, 998, 999};
        for (int weight : weights) {
            for (int other = Math.max(1, weight - 1); other <= Math.min(999, weight + 1); other++) {
                HeavierToCome x = Check.made("bridge 1;man " + weight + " 0;man " + other + " 0;knows 0 1;");
                Check.due(weight + " NAMES " + other, x.cross(0, 0, 1), other > weight ? 1 : 0);
                Check.due("told(6)", x.told(6), other > weight ? 3 : 2);
            }
        }
        Check.due("1 NAMES 999", Check.made("bridge 1;man 1 0;man 999 0;knows 0 1;").cross(0, 0, 1), 1);
        Check.due("999 NAMES 1", Check.made("bridge 1;man 999 0;man 1 0;knows 0 1;").cross(0, 0, 1), 0);
    }

    /** "lives": until he is EATEN, be it at another BRIDGE. */
    private static void whoIsNamedLives() {
        HeavierToCome x = Check.made("bridge 1;bridge 1;man 1 0;man 2 0;man 3 0;knows 0 1,2;");
        Check.due("1 lives", tried(x, 0, 0, 1), 1);
        x.cross(1, 1, NONE);
        Check.due("told(6)", x.told(6), 5);
        Check.due("1 lives no more", tried(x, 0, 0, 1), 0);
        Check.due("1 lives no more: at the other BRIDGE", tried(x, 1, 0, 1), 0);
        Check.due("2 lives", tried(x, 0, 0, 2), 1);
        x.evening();
        Check.due("1 lives no more on the next DAY", tried(x, 0, 0, 1), 0);
    }

    /** "is not OVER this BRIDGE this DAY". */
    private static void whoIsNamedIsNotOver() {
        HeavierToCome x = Check.made("bridge 1;bridge 1;man 1 0;man 2 0;knows 0 1;");
        Check.due("1 is not OVER", tried(x, 0, 0, 1), 1);
        x.cross(0, 1, NONE);
        Check.due("1 is OVER", tried(x, 0, 0, 1), 0);
        Check.due("1 is OVER the other BRIDGE", tried(x, 1, 0, 1), 1);
        x.evening();
        Check.due("1 was OVER on another DAY", tried(x, 0, 0, 1), 1);
    }

    /** "he himself is not REMEMBERED there": he who NAMES, not he who is NAMED; there, not elsewhere. */
    private static void notRememberedThere() {
        HeavierToCome x = Check.made("bridge 1;bridge 1;man 1 0;man 2 0;man 3 0;knows 0 1,2;knows 1 2;");
        x.cross(0, 1, 2);
        x.evening();
        Check.due("bridge(0, 2)", x.bridge(0, 2), 2);
        Check.due("1 is REMEMBERED at 0", tried(x, 0, 1, 2), 0);
        Check.due("1 is not at 1", tried(x, 1, 1, 2), 1);
        Check.due("0 NAMES 1, who is REMEMBERED", tried(x, 0, 0, 1), 1);
        x.evening();
        Check.due("1 is forgotten at 0", tried(x, 0, 1, 2), 1);
    }

    /** "(one who goes by himself may be)". */
    private static void rememberedByHimself() {
        HeavierToCome x = Check.made("year 9;bridge 0;bridge 0;man 1 0;man 2 0;knows 0 1;");
        x.cross(0, 0, 1);
        x.evening();
        x.cross(1, 1, NONE);
        Check.due("0 is not the heaviest", tried(x, 0, 0, NONE), 0);
        x.evening();
        x.cross(1, 1, NONE);
        Check.due("told(6): 1 was EATEN", x.told(6), 1);
        Check.due("bridge(0, 2)", x.bridge(0, 2), 1);
        Check.due("0 is REMEMBERED and the heaviest", x.cross(0, 0, NONE), 1);
    }

    /** "nobody who lives is as heavy as he": lighter by one, as heavy, heavier by one. */
    private static void nobodyAsHeavy() {
        for (int other = 499; other <= 501; other++) {
            for (int place = 0; place < 6; place++) {
                StringBuilder text = new StringBuilder("bridge 1;man 500 0;");
                for (int t = 0; t < 5; t++) {
                    text.append("man ").append(t + 1 == place ? other : 3 + t).append(" 0;");
                }
                int due = place == 0 || other < 500 ? 1 : 0;
                Check.due("500, and " + other + " at " + place, Check.made(text.toString()).cross(0, 0, NONE), due);
            }
        }
        Check.due("1 and 1", Check.made("bridge 1;man 1 0;man 1 0;").cross(0, 0, NONE), 0);
        Check.due("2 and 1", Check.made("bridge 1;man 2 0;man 1 0;").cross(0, 0, NONE), 1);
        Check.due("999 and 999", Check.made("bridge 1;man 999 0;man 999 0;").cross(0, 1, NONE), 0);
        Check.due("998 and 999", Check.made("bridge 1;man 998 0;man 999 0;").cross(0, 1, NONE), 1);
        Check.due("one alone of 1", Check.made("bridge 1;man 1 0;").cross(0, 0, NONE), 1);
        Check.due("an OX of 999 is nobody", Check.made("bridge 1;man 1 0;ox 999 0;").cross(0, 0, NONE), 1);
    }

    /** He who lives hinders, though he is OVER; he who lives no more does not. */
    private static void nobodyWhoLives() {
        HeavierToCome x = Check.made("year 1;bridge 1;bridge 1;man 5 0;man 6 0;man 7 0;knows 1 2;knows 2 1;");
        Check.due("7 goes by himself", x.cross(0, 2, NONE), 1);
        Check.due("6, though 7 is OVER", tried(x, 0, 1, NONE), 0);
        Check.due("7 NAMES one who is lighter at the other BRIDGE", x.cross(1, 2, 1), 0);
        Check.due("told(6): 7 was EATEN, though OVER", x.told(6), 3);
        Check.due("bridge(0, 1): he is OVER still", x.bridge(0, 1), 4);
        Check.due("5, for 6 lives", tried(x, 0, 0, NONE), 0);
        Check.due("6, for 7 lives no more", x.cross(0, 1, NONE), 1);
    }

    /** "he has not gone so, by himself, over this BRIDGE in this YEAR". */
    private static void byHimselfOncePerBridge() {
        HeavierToCome x = Check.made("year 3;bridge 1;bridge 1;man 5 0;man 4 0;");
        Check.due("DAY 0 at 0", x.cross(0, 0, NONE), 1);
        Check.due("DAY 0 at 1", tried(x, 1, 0, NONE), 1);
        x.evening();
        Check.due("DAY 1 at 0", tried(x, 0, 0, NONE), 0);
        Check.due("DAY 1 at 1", x.cross(1, 0, NONE), 1);
        x.evening();
        Check.due("DAY 2 at 0", tried(x, 0, 0, NONE), 0);
        Check.due("DAY 2 at 1", tried(x, 1, 0, NONE), 0);
        x.evening();
        Check.due("DAY 3 at 0", tried(x, 0, 0, NONE), 1);
        Check.due("DAY 3 at 1", x.cross(1, 0, NONE), 1);
        x.evening();
        Check.due("DAY 4 at 0, not gone in this YEAR", tried(x, 0, 0, NONE), 1);
        Check.due("DAY 4 at 1", x.cross(1, 0, NONE), 0);
        Check.due("another one, who has not gone so", x.cross(1, 1, NONE), 1);
    }

    /** Who crossed it by a NAME in this YEAR has not gone by himself. */
    private static void onlySoByHimself() {
        HeavierToCome x = Check.made("year 9;bridge 1;man 5 0;man 6 0;knows 0 1;");
        Check.due("0 NAMES 1", x.cross(0, 0, 1), 1);
        Check.due("1 goes by himself", x.cross(0, 1, NONE), 1);
        x.evening();
        Check.due("1 has gone so", x.cross(0, 1, NONE), 0);
        Check.due("0 has not gone so", x.cross(0, 0, NONE), 1);
        x.evening();
        Check.due("0 has gone so", x.cross(0, 0, NONE), 0);
        Check.due("told(6)", x.told(6), 0);
    }

    /** "Else he is EATEN (lives no more)." */
    private static void eatenLivesNoMore() {
        HeavierToCome x = Check.made("bridge 1;man 5 0;man 6 0;man 5 0;knows 0 2;knows 2 1;");
        Check.due("0 NAMES one as heavy", x.cross(0, 0, 2), 0);
        Check.due("man(0, 2)", x.man(0, 2), 0);
        Check.due("told(6)", x.told(6), 6);
        Check.due("bridge(0, 1)", x.bridge(0, 1), 0);
        Check.due("he cannot cross", x.cross(0, 0, NONE), Check.NOT);
        x.evening();
        Check.due("man(0, 2) on the next DAY", x.man(0, 2), 0);
        Check.due("he cannot cross on the next DAY", x.cross(0, 0, 2), Check.NOT);
        Check.due("others may", x.cross(0, 2, 1), 1);
    }

    /** "who was LET GO at a BRIDGE by a NAME that is not OVER it by then LIED". */
    private static void lies() {
        HeavierToCome x = Check.made("bridge 5;bridge 5;man 5 0;man 6 0;man 7 0;knows 0 1,2;knows 1 2;");
        x.cross(0, 0, 1);
        Check.due("evening(): 1 never came", eveningTried(x), 1);
        x.cross(1, 1, NONE);
        Check.due("evening(): 1 was EATEN at another BRIDGE", eveningTried(x), 1);
        x = Check.made("bridge 5;bridge 5;man 5 0;man 6 0;man 7 0;knows 0 1,2;knows 1 2;");
        x.cross(0, 0, 1);
        x.cross(1, 1, 2);
        x.cross(1, 2, NONE);
        Check.due("evening(): 1 is OVER another BRIDGE", eveningTried(x), 1);
        x.cross(0, 1, NONE);
        Check.due("evening(): 1 was EATEN at this one", eveningTried(x), 1);
        x = Check.made("bridge 5;man 5 0;man 6 0;knows 0 1;");
        x.cross(0, 0, 1);
        Check.due("evening()", x.evening(), 1);
        x.cross(0, 1, NONE);
        Check.due("evening(): 1 came a DAY too late", x.bridge(0, 2), 1);
    }

    /** EVENING, tried and taken back. */
    private static int eveningTried(HeavierToCome x) {
        x.keep(1);
        int answer = x.evening();
        x.goBack(1);
        return answer;
    }

    /** No LIE: a NAME that is OVER by then, nobody NAMED, a NAME by which he was EATEN, no crossing. */
    private static void noLies() {
        HeavierToCome x = Check.made("bridge 5;man 5 0;man 6 0;man 7 0;man 6 0;knows 0 1,2;knows 1 2,0;knows 3 0,1;");
        Check.due("evening(): nobody crossed", eveningTried(x), 0);
        x.cross(0, 2, NONE);
        Check.due("evening(): nobody NAMED", eveningTried(x), 0);
        x.cross(0, 3, 1);
        Check.due("told(6): EATEN by a NAME as heavy", x.told(6), 7);
        Check.due("evening(): EATEN by a NAME", eveningTried(x), 0);
        x.cross(0, 0, 1);
        Check.due("evening(): 1 is not OVER", eveningTried(x), 1);
        x.cross(0, 1, 2);
        Check.due("1 was EATEN, for 2 is OVER", x.told(6), 5);
        Check.due("evening(): 1 is not OVER", eveningTried(x), 1);
    }

    /** Only who is OVER "by then" counts, when he crossed does not, nor whether he lives then. */
    private static void notOverByThen() {
        HeavierToCome x = Check.made("bridge 5;bridge 5;man 5 0;man 6 0;man 7 0;knows 0 1,2;knows 1 2;");
        x.cross(0, 0, 1);
        x.cross(0, 1, 2);
        Check.due("evening(): 2 is to come", eveningTried(x), 2);
        x.cross(0, 2, NONE);
        Check.due("evening(): all are OVER", eveningTried(x), 0);
        x.cross(1, 1, NONE);
        Check.due("told(6)", x.told(6), 5);
        Check.due("evening(): 1 is OVER, though EATEN at the other BRIDGE", eveningTried(x), 0);
        x.cross(1, 0, 2);
        Check.due("evening(): 2 is not OVER the other one", eveningTried(x), 1);
    }

    /** "from the next DAY on, for M days: as long as THE DAY less the day of his latest LIE there is M or less". */
    private static void fromTheNextDayOn() {
        for (int m = 1; m <= 9; m++) {
            for (int first : new int[] {0, 1, 7}) {
                HeavierToCome x = Check.made("bridge " + m + ";man 5 0;man 6 0;knows 0 1;");
                days(x, first);
                x.cross(0, 0, 1);
                Check.due("on the DAY itself, M " + m, x.bridge(0, 2), 0);
                Check.due("evening()", x.evening(), 1);
                for (int behind = 1; behind <= m; behind++) {
                    Check.due(behind + " DAYS behind, M " + m, x.bridge(0, 2), 1);
                    Check.due(behind + " DAYS behind, M " + m + ": cross", tried(x, 0, 0, 1), 0);
                    x.evening();
                }
                Check.due((m + 1) + " DAYS behind, M " + m, x.bridge(0, 2), 0);
                Check.due((m + 1) + " DAYS behind, M " + m + ": cross", tried(x, 0, 0, 1), 1);
                x.evening();
                Check.due((m + 2) + " DAYS behind, M " + m, x.bridge(0, 2), 0);
            }
        }
    }

    /** "M 0: for ever". */
    private static void forEver() {
        HeavierToCome x = Check.made("bridge 0;man 5 0;man 6 0;knows 0 1;");
        Check.due("ahead of any LIE", x.bridge(0, 2), 0);
        x.cross(0, 0, 1);
        Check.due("on the DAY itself", x.bridge(0, 2), 0);
        x.evening();
        for (int behind = 1; behind <= 10; behind++) {
            Check.due(behind + " DAYS behind", x.bridge(0, 2), 1);
            x.evening();
        }
        for (int k = 0; k < 400; k++) {
            x.drift(99);
        }
        Check.due("told(5)", x.told(5), 39611);
        Check.due("39611 DAYS behind", x.bridge(0, 2), 1);
        Check.due("cross", x.cross(0, 0, 1), 0);
    }

    private static void theLatestLie() {
        HeavierToCome x = Check.made("bridge 1;man 5 0;man 6 0;knows 0 1;");
        x.cross(0, 0, 1);
        x.evening();
        x.evening();
        Check.due("DAY 2: forgotten", x.bridge(0, 2), 0);
        x.cross(0, 0, 1);
        x.evening();
        Check.due("DAY 3: a LIE on DAY 2", x.bridge(0, 2), 1);
        x.evening();
        Check.due("DAY 4: forgotten", x.bridge(0, 2), 0);
        x.cross(0, 0, 1);
        x.cross(0, 1, NONE);
        x.evening();
        Check.due("DAY 5: no LIE on DAY 4", x.bridge(0, 2), 0);
    }

    private static void rememberedThereAlone() {
        HeavierToCome x = Check.made("bridge 1;bridge 0;bridge 2;man 5 0;man 6 0;knows 0 1;");
        x.cross(0, 0, 1);
        x.cross(2, 0, 1);
        x.evening();
        int[][] due = {{1, 0, 1}, {0, 0, 1}, {0, 0, 0}};
        for (int day = 0; day < due.length; day++) {
            for (int b = 0; b < 3; b++) {
                Check.due("bridge(" + b + ", 2) on DAY " + (day + 1), x.bridge(b, 2), due[day][b]);
            }
            x.evening();
        }
    }

    /** "Then THE DAY is one more, nobody is OVER." */
    private static void theDayIsOneMore() {
        HeavierToCome x = Check.made("bridge 1;".repeat(5) + "man 5 0;man 6 0;knows 0 1;");
        for (int b = 0; b < 5; b++) {
            x.cross(b, 0, 1);
            x.cross(b, 1, NONE);
            Check.due("bridge(" + b + ", 1)", x.bridge(b, 1), 3);
        }
        x.evening();
        Check.due("told(5)", x.told(5), 1);
        for (int b = 0; b < 5; b++) {
            Check.due("bridge(" + b + ", 1) on the next DAY", x.bridge(b, 1), 0);
            Check.due("named(" + b + ", 0) on the next DAY", x.named(b, 0), Check.NOT);
        }
        x.evening();
        Check.due("told(5)", x.told(5), 2);
    }
}
