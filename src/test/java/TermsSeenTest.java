/** The terms from what was SEEN on (3): SEEN, ORDERS, HEAVIER, THE ROW, ODDS, WRONG, with both sides of each edge. */
public final class TermsSeenTest {
    private static final int NONE = Check.NONE;
    private static final String MEN = "man 5 5;man 5 5;man 5 5;man 5 5;man 5 5;man 5 5;";

    public static void main(String[] args) {
        twentyAtMost();
        ordersOfAll();
        letGoAndEaten();
        ordersThatFit();
        heavierInAll();
        heavierWithoutOrders();
        sixInTheRow();
        ofABillion();
        eachOnceRising();
        wrongIsAPlace();
        wouldNotBeLetGo();
        notBehindHim();
        triedFromNow();
        Check.end("terms, seen and the row");
    }

    private static HeavierToCome men(int count) {
        return Check.made(MEN.substring(0, 8 * count));
    }

    /** "SEEN (20 at most)". */
    private static void twentyAtMost() {
        HeavierToCome x = men(3);
        for (int k = 1; k <= 20; k++) {
            Check.due("told(7) ahead of the sight " + k, x.told(7), k - 1);
            Check.due("the sight " + k, x.see(0, 1, true), k);
        }
        Check.due("the 21st", x.see(1, 2, true), Check.FULL);
        Check.due("told(7)", x.told(7), 20);
        Check.due("heavier(1) knows nothing of the 21st", x.heavier(1), 0);
        Check.due("tear()", x.tear(), 20);
        Check.due("the first again", x.see(1, 2, true), 1);
        Check.due("heavier(1)", x.heavier(1), 4);
        x = men(3);
        for (int k = 1; k <= 19; k++) {
            x.see(0, 1, true);
        }
        Check.due("the 20th counts", x.see(1, 2, true), 20);
        Check.due("heavier(0)", x.heavier(0), 6);
    }

    /** "ORDERS of all TRAVELLERS ... (1 without TRAVELLERS)". */
    private static void ordersOfAll() {
        int[] due = {1, 1, 2, 6, 24, 120, 720};
        for (int count = 0; count <= 6; count++) {
            Check.due("orders() of " + count, men(count).orders(), due[count]);
        }
        Check.due("orders() of a new object", new HeavierToCome().orders(), 1);
        HeavierToCome x = Check.made("bridge 1;" + MEN.substring(0, 24));
        x.cross(0, 1, NONE);
        Check.due("told(6)", x.told(6), 5);
        Check.due("orders() of all, though 1 lives no more", x.orders(), 6);
    }

    /** "(LET GO: B behind A; EATEN: A behind B)". */
    private static void letGoAndEaten() {
        HeavierToCome x = men(2);
        x.see(0, 1, true);
        Check.due("LET GO: heavier(0)", x.heavier(0), 2);
        Check.due("LET GO: heavier(1)", x.heavier(1), 0);
        x.tear();
        x.see(0, 1, false);
        Check.due("EATEN: heavier(0)", x.heavier(0), 0);
        Check.due("EATEN: heavier(1)", x.heavier(1), 1);
        // WEIGHTS that were told count for nothing in what was SEEN.
        x = Check.made("man 9 5;man 1 5;");
        x.see(0, 1, true);
        Check.due("against the WEIGHTS: orders()", x.orders(), 1);
        Check.due("against the WEIGHTS: heavier(0)", x.heavier(0), 2);
    }

    /** "that fit: how many": all of them, down to one, and none. */
    private static void ordersThatFit() {
        HeavierToCome x = men(6);
        int[] due = {360, 120, 30, 6, 1};
        for (int t = 0; t < 5; t++) {
            x.see(t, t + 1, true);
            Check.due("orders() of a chain of " + (t + 2), x.orders(), due[t]);
        }
        x.see(0, 5, true);
        Check.due("what is so already", x.orders(), 1);
        x.see(5, 0, true);
        Check.due("a ring of six", x.orders(), 0);
        x.tear();
        x.see(0, 1, true);
        x.see(0, 1, false);
        Check.due("a ring of two", x.orders(), 0);
        x.tear();
        Check.due("nothing SEEN", x.orders(), 720);
        x.see(5, 0, true);
        Check.due("the last ahead of the first", x.orders(), 360);
    }

    /** "HEAVIER: who is behind one in all of them (a SET ...)": who stands behind by others, too. */
    private static void heavierInAll() {
        HeavierToCome x = men(6);
        for (int t = 0; t < 6; t++) {
            Check.due("nothing SEEN: heavier(" + t + ")", x.heavier(t), 0);
        }
        for (int t = 4; t >= 0; t--) {
            x.see(t, t + 1, true);
        }
        for (int t = 0; t < 6; t++) {
            Check.due("a chain: heavier(" + t + ")", x.heavier(t), 63 >> t + 1 << t + 1);
        }
        x = men(4);
        x.see(0, 1, true);
        x.see(0, 2, true);
        Check.due("behind in some alone is not behind in all: heavier(1)", x.heavier(1), 0);
        Check.due("heavier(0)", x.heavier(0), 6);
        Check.due("heavier(3)", x.heavier(3), 0);
    }

    /** "0, if there are none". */
    private static void heavierWithoutOrders() {
        HeavierToCome x = men(4);
        x.see(0, 1, true);
        x.see(2, 3, true);
        Check.due("heavier(0)", x.heavier(0), 2);
        x.see(2, 3, false);
        for (int t = 0; t < 4; t++) {
            Check.due("no ORDERS: heavier(" + t + ")", x.heavier(t), 0);
        }
        Check.due("one alone: heavier(0)", men(1).heavier(0), 0);
    }

    /** "THE ROW (6 at most)". */
    private static void sixInTheRow() {
        HeavierToCome x = men(2);
        for (int k = 1; k <= 6; k++) {
            Check.due("told(8) ahead of " + k, x.told(8), k - 1);
            Check.due("the place " + k, x.row(k % 2, k == 6 ? 1 : NONE), k);
        }
        Check.due("the seventh", x.row(1, 0), Check.FULL);
        Check.due("told(8)", x.told(8), 6);
        Check.due("odds(): the sixth counts, the seventh does not", x.odds(), 50000000);
        Check.due("tear()", x.tear(), 6);
        Check.due("the first again", x.row(1, 0), 1);
    }

    /** "of a BILLION ... times Q / 100 (cut)": Q 0, 1, 99, 100. */
    private static void ofABillion() {
        int[] chances = {0, 1, 50, 99, 100};
        int[] due = {0, 10000000, 500000000, 990000000, 1000000000};
        for (int k = 0; k < chances.length; k++) {
            HeavierToCome x = Check.made("man 5 7;man 5 " + chances[k] + ";");
            Check.due("an empty ROW", x.odds(), 1000000000);
            x.row(0, NONE);
            Check.due("nobody NAMED", x.odds(), 1000000000);
            x.row(0, 1);
            Check.due("Q " + chances[k], x.odds(), due[k]);
            x.row(0, 1);
            Check.due("Q " + chances[k] + ", NAMED twice", x.odds(), due[k]);
        }
    }

    /** "(each once, rising)": 10000000 * 1 / 100 and on: 100000, 1000, 10; then 19 of it is 1, then 99 of it 0. */
    private static void eachOnceRising() {
        int[] due = {10000000, 100000, 1000, 10, 1, 0};
        HeavierToCome x = Check.made("man 5 1;man 5 1;man 5 1;man 5 1;man 5 19;man 5 99;");
        for (int u = 0; u < 6; u++) {
            x.row(u == 5 ? 0 : 5, u);
            Check.due("NAMED up to " + u, x.odds(), due[u]);
        }
        // Four of 1 leave 10: 15 of a hundred of it is 1, 95 of that 0; the other way round it is 9, then 1.
        x = Check.made("man 5 1;man 5 1;man 5 1;man 5 1;man 5 15;man 5 95;");
        int[] falling = {5, 4, 3, 2, 1};
        for (int u : falling) {
            x.row(0, u);
        }
        x.row(1, 0);
        Check.due("15 ahead of 95, though NAMED behind him", x.odds(), 0);
        x = Check.made("man 5 1;man 5 1;man 5 1;man 5 1;man 5 95;man 5 15;");
        for (int u : falling) {
            x.row(0, u);
        }
        x.row(1, 0);
        Check.due("95 ahead of 15", x.odds(), 1);
    }

    private static void wrong(String why, HeavierToCome x, int b, int want, int... row) {
        x.tear();
        for (int k = 0; k + 1 < row.length; k += 2) {
            x.row(row[k], row[k + 1]);
        }
        Check.due(why, x.wrong(b), want);
    }

    /** "the place in THE ROW (0 the first) ... NONE". */
    private static void wrongIsAPlace() {
        HeavierToCome x = Check.made("bridge 1;man 1 5;man 2 5;man 3 5;man 4 5;man 5 5;man 6 5;"
                + "knows 0 1,2,3,4,5;knows 1 2,3,4,5;knows 2 3,4,5;knows 3 4,5;knows 4 5;knows 5 0;");
        wrong("an empty ROW", x, 0, NONE);
        wrong("all six", x, 0, NONE, 0, 1, 1, 2, 2, 3, 3, 4, 4, 5, 5, NONE);
        wrong("the first", x, 0, 0, 0, NONE, 1, 2, 2, 3, 3, 4, 4, 5, 5, NONE);
        wrong("the second", x, 0, 1, 0, 1, 1, NONE, 2, 3, 3, 4, 4, 5, 5, NONE);
        wrong("the last", x, 0, 5, 0, 1, 1, 2, 2, 3, 3, 4, 4, 5, 5, 0);
        wrong("the first of two", x, 0, 2, 0, 1, 1, 2, 2, NONE, 3, 4, 4, NONE, 5, NONE);
        wrong("the first LIES", x, 0, 0, 0, 1, 2, 3, 3, 4, 4, 5, 5, NONE);
        wrong("the last LIES", x, 0, 4, 0, 1, 1, 2, 2, 3, 3, 4, 4, 5);
        wrong("the first of two who LIE", x, 0, 1, 0, 2, 2, 3, 4, 5);
    }

    /** "of the first who, tried one behind the other from now, would not be LET GO", ahead of any who LIE. */
    private static void wouldNotBeLetGo() {
        HeavierToCome x = Check.made("bridge 1;man 5 5;man 6 5;man 7 5;man 6 5;knows 0 1,2,3;knows 1 2,3,0;knows 3 1;");
        wrong("one who is as heavy is NAMED", x, 0, 0, 1, 3, 3, NONE);
        wrong("one who is lighter is NAMED", x, 0, 0, 1, 0, 0, 1);
        wrong("one whom he does not know is NAMED", x, 0, 0, 3, 2, 2, NONE);
        wrong("by himself, with a heavier one", x, 0, 0, 1, NONE, 2, NONE);
        wrong("by himself, with a heavier one who is OVER by then", x, 0, 1, 2, NONE, 1, NONE);
        wrong("one who is OVER by then is NAMED", x, 0, 1, 2, NONE, 0, 2);
        wrong("who is OVER by then crosses again", x, 0, 1, 2, NONE, 2, NONE);
        wrong("who would be EATEN is told ahead of who LIES", x, 0, 2, 0, 1, 1, 2, 3, NONE);
        wrong("both are one", x, 0, 0, 0, NONE, 1, 2);
        wrong("none would be EATEN: who LIES", x, 0, 0, 0, 1, 2, NONE);
    }

    /** "of the first who NAMED one that is not behind him in THE ROW". */
    private static void notBehindHim() {
        HeavierToCome x = Check.made("bridge 1;man 5 5;man 6 5;man 7 5;knows 0 1,2;knows 1 2;");
        wrong("next behind him", x, 0, NONE, 1, 2, 2, NONE);
        wrong("two behind him", x, 0, NONE, 0, 2, 1, 2, 2, NONE);
        wrong("not in it", x, 0, 0, 1, 2);
        wrong("not in it, the last", x, 0, 1, 0, 1, 1, 2);
        wrong("who NAMED nobody needs none behind him", x, 0, NONE, 2, NONE);
    }

    /** From now: this DAY, this BRIDGE, this YEAR, who lives. Nothing of it comes to be. */
    private static void triedFromNow() {
        HeavierToCome x = Check.made("year 3;bridge 1;bridge 1;man 5 5;man 6 5;man 7 5;knows 0 1,2;knows 1 2;");
        x.row(0, 1);
        x.row(1, 2);
        x.row(2, NONE);
        Check.due("now", x.wrong(0), NONE);
        Check.due("nobody is OVER by it", x.bridge(0, 1), 0);
        Check.due("asked again", x.wrong(0), NONE);
        x.keep(0);
        x.cross(0, 0, 2);
        Check.due("0 is OVER", x.wrong(0), 0);
        Check.due("0 is not OVER the other one", x.wrong(1), NONE);
        x.evening();
        Check.due("0 is REMEMBERED", x.wrong(0), 0);
        Check.due("0 is not at the other one", x.wrong(1), NONE);
        x.goBack(0);
        x.cross(0, 2, NONE);
        Check.due("2 is OVER", x.wrong(0), 1);
        x.evening();
        Check.due("2 has gone by himself in this YEAR", x.wrong(0), 2);
        Check.due("2 has not at the other one", x.wrong(1), NONE);
        x.evening();
        x.evening();
        Check.due("2 may in the next YEAR", x.wrong(0), NONE);
        x.cross(1, 1, NONE);
        Check.due("1 lives no more: NAMED by 0", x.wrong(0), 0);
        x.tear();
        x.row(0, 2);
        x.row(1, 2);
        x.row(2, NONE);
        Check.due("1 lives no more: crosses himself", x.wrong(0), 1);
        x.know(0, 2, false);
        Check.due("0 does not know of 2 any more", x.wrong(0), 0);
    }
}
