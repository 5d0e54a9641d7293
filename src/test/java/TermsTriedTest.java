/** The term TRIED (3), up to what was SEEN: each sentence that names an edge, with both sides of it. */
public final class TermsTriedTest {
    private static final int NONE = Check.NONE;
    private static final String SIX = "bridge 1;man 1 0;man 2 0;man 3 0;man 4 0;man 5 0;man 6 0;";
    private static final String ALL_KNOW = "knows 0 1,2,3,4,5;knows 1 2,3,4,5;knows 2 3,4,5;knows 3 4,5;knows 4 5;";

    public static void main(String[] args) {
        withThoseWhoLive();
        eachLetGo();
        eachNamedIsBehind();
        ofTheMost();
        theFirstOfLikeOnes();
        nobodyElseTheLeast();
        fewestPairs();
        byNoTelling();
        heavierOxen();
        leastPrice();
        leastSet();
        allOfThem();
        oxenAndTheRemembered();
        unlikeNamesAtTwoBridges();
        aNameThatLivesNoMore();
        greatestQ();
        onlyByWhomHeIsLetGo();
        Check.end("terms, tried");
    }

    private static void most(String why, HeavierToCome x, int b, int... row) {
        Check.due(why + ": most(" + b + ", NONE)", x.most(b, NONE), row.length);
        for (int i = 0; i < row.length; i++) {
            Check.due(why + ": most(" + b + ", " + i + ")", x.most(b, i), row[i]);
        }
        Check.due(why + ": behind the last", x.most(b, row.length), NONE);
        Check.due(why + ": below the first", x.most(b, -2), NONE);
    }

    private static void names(String why, HeavierToCome x, int b, int... named) {
        for (int i = 0; i < named.length; i++) {
            Check.due(why + ": names(" + b + ", " + i + ")", x.names(b, i), named[i]);
        }
        Check.due(why + ": behind the last", x.names(b, named.length), Check.OUTSIDE);
        Check.due(why + ": below the first", x.names(b, -1), Check.OUTSIDE);
    }

    /** "TRIED for a BRIDGE, from now on this DAY, with those who live and are not OVER it." */
    private static void withThoseWhoLive() {
        HeavierToCome x = Check.made("year 9;bridge 1;bridge 1;" + SIX.substring(9) + ALL_KNOW);
        most("all", x, 0, 0, 1, 2, 3, 4, 5);
        x.cross(0, 2, 5);
        most("2 is OVER", x, 0, 0, 1, 3, 4, 5);
        most("2 is not OVER this one", x, 1, 0, 1, 2, 3, 4, 5);
        Check.due("tellings(0) with 2 OVER", x.tellings(0), 0);
        x.cross(1, 3, NONE);
        Check.due("told(6): 3 was EATEN", x.told(6), 55);
        most("3 lives no more", x, 0, 0, 1, 4, 5);
        most("3 lives no more, at the other one", x, 1, 0, 1, 2, 4, 5);
        x.cross(0, 5, NONE);
        most("5 is OVER, for whom the others wait", x, 0);
        Check.due("tellings(0) with 5 OVER", x.tellings(0), NONE);
        Check.due("hired(0, 0) with 5 OVER and no OX", x.hired(0, 0), NONE);
        x.evening();
        most("the next DAY: 5 has gone by himself in this YEAR", x, 0);
        most("the next DAY: not at the other one", x, 1, 0, 1, 2, 4, 5);
        for (int day = 1; day < 9; day++) {
            x.evening();
        }
        most("the next YEAR", x, 0, 0, 1, 2, 4, 5);
        for (int t = 0; t < 5; t++) {
            x.cross(0, t, 5);
        }
        most("the last one", x, 0, 5);
        x.cross(0, 5, NONE);
        most("nobody is to come", x, 0);
        Check.due("tellings(0) of nobody", x.tellings(0), 0);
        Check.due("hired(0, 0) of nobody", x.hired(0, 0), 0);
        Check.due("hired(0, 1) of nobody", x.hired(0, 1), 0);
    }

    /** "A TRUE ROW: some of them cross one behind the other, each LET GO". */
    private static void eachLetGo() {
        most("no TRAVELLERS", Check.made("bridge 1;"), 0);
        most("the only one, by himself", Check.made("bridge 1;man 5 0;"), 0, 0);
        most("two as heavy", Check.made("bridge 1;man 5 0;man 5 0;knows 0 1;knows 1 0;"), 0);
        most("one lighter by 1", Check.made("bridge 1;man 5 0;man 6 0;knows 0 1;knows 1 0;"), 0, 0, 1);
        most("one who does not know", Check.made("bridge 1;man 5 0;man 6 0;knows 1 0;"), 0, 1);
        HeavierToCome x = Check.made("bridge 1;man 5 0;man 6 0;knows 0 1;");
        x.cross(0, 0, 1);
        x.evening();
        most("one who is REMEMBERED", x, 0, 1);
        x.evening();
        most("one who is forgotten", x, 0, 0, 1);
        // Among six of whom two are the heaviest nobody goes by himself, and nobody is LET GO.
        most("two heaviest ones", Check.made("bridge 1;man 1 0;man 2 0;man 3 0;man 4 0;man 6 0;man 6 0;" + ALL_KNOW), 0);
    }

    /** "each one NAMED is in the row behind who NAMES him". */
    private static void eachNamedIsBehind() {
        most("1 alone may be NAMED by 0, who drops out with him",
                Check.made("bridge 1;man 1 0;man 2 0;man 3 0;knows 0 1;"), 0, 2);
        most("1 is in the row", Check.made("bridge 1;man 1 0;man 2 0;man 3 0;knows 0 1;knows 1 2;"), 0, 0, 1, 2);
        most("who is NAMED crosses behind, though the lesser one",
                Check.made("bridge 1;man 3 0;man 2 0;man 1 0;knows 1 0;knows 2 1;"), 0, 2, 1, 0);
    }

    /** "MOST: the TRUE ROW of the most TRAVELLERS". */
    private static void ofTheMost() {
        most("all six", Check.made(SIX + ALL_KNOW), 0, 0, 1, 2, 3, 4, 5);
        most("five", Check.made(SIX + "knows 0 5;knows 1 5;knows 2 5;knows 3 5;"), 0, 0, 1, 2, 3, 5);
        most("one", Check.made(SIX), 0, 5);
        most("none, for the heaviest has gone by himself in this YEAR", heaviestGone(SIX + ALL_KNOW), 0);
        String chain = SIX + "knows 0 1;knows 1 2;knows 2 3;knows 3 4;knows 4 5;";
        most("all six, each by the next", Check.made(chain), 0, 0, 1, 2, 3, 4, 5);
        most("none of six, each of whom falls with the next", heaviestGone(chain), 0);
    }

    private static HeavierToCome heaviestGone(String hills) {
        HeavierToCome x = Check.made(hills);
        x.cross(0, 5, NONE);
        x.evening();
        return x;
    }

    /** "of like ones the first (one by one the lesser TRAVELLER)". */
    private static void theFirstOfLikeOnes() {
        most("0 first", Check.made("bridge 1;man 1 0;man 1 0;man 2 0;knows 0 2;knows 1 2;"), 0, 0, 1, 2);
        most("the heaviest is 0, who must be last", Check.made("bridge 1;man 3 0;man 1 0;man 1 0;knows 1 0;knows 2 0;"), 0, 1, 2, 0);
        most("0 waits for 2 alone", Check.made("bridge 1;man 8 0;man 7 0;man 6 0;man 9 0;knows 0 3;knows 1 3;knows 2 0;"), 0, 1, 2, 0, 3);
        most("0 waits for nobody", Check.made("bridge 1;man 8 0;man 7 0;man 6 0;man 9 0;knows 0 3;knows 1 3;knows 2 0,3;"), 0, 0, 1, 2, 3);
        most("0 may not be first, for both need him", Check.made("bridge 1;man 8 0;man 6 0;man 7 0;man 9 0;knows 0 3;knows 1 2;knows 2 0;"), 0, 1, 2, 0, 3);
    }

    /** "whom each NAMES in it: nobody, if he is LET GO so, else the least". */
    private static void nobodyElseTheLeast() {
        names("by himself", Check.made("bridge 1;man 5 0;"), 0, NONE);
        names("the least whom he knows of", Check.made(SIX + ALL_KNOW), 0, 1, 2, 3, 4, 5, NONE);
        names("the least is not told first", Check.made(SIX + "knows 0 5,4,3;knows 3 5;knows 4 5;"), 0, 3, 5, 5, NONE);
        // The row: 0, 1, 2; 1 is as heavy as 0.
        names("not one as heavy", Check.made("bridge 1;man 5 0;man 5 0;man 6 0;knows 0 1,2;knows 1 0,2;"), 0, 2, 2, NONE);
        // The row: 0, 3, for 1 and 2 drop out.
        names("not one who drops out", Check.made("bridge 1;man 5 0;man 6 0;man 7 0;man 8 0;knows 0 1,2,3;"), 0, 3, NONE);
        // The row: 0, 2, 1: 0 knows of 1 alone; 2 could NAME 0, who is ahead of him, and NAMES 1.
        names("not one who is ahead", Check.made("bridge 1;man 6 0;man 7 0;man 5 0;knows 0 1;knows 2 0,1;"), 0, 1, 1, NONE);
        names("nobody in it", Check.made("bridge 1;man 5 0;man 5 0;"), 0);
    }

    /** "the fewest pairs (A is told of B) by which, being known, all of them can be in a TRUE ROW": 0 up to 5. */
    private static void fewestPairs() {
        String[] knows = {"knows 4 5;", "knows 3 5;", "knows 2 5;", "knows 1 5;", "knows 0 5;"};
        StringBuilder text = new StringBuilder(SIX);
        for (int told = 0; told <= 5; told++) {
            Check.due("tellings(0), where " + told + " know", Check.made(text.toString()).tellings(0), 5 - told);
            text.append(told < 5 ? knows[told] : "");
        }
        Check.due("of one", Check.made("bridge 1;man 5 0;").tellings(0), 0);
        Check.due("of nobody", Check.made("bridge 1;").tellings(0), 0);
        Check.due("who knows of one as heavy alone", Check.made("bridge 1;man 5 0;man 5 0;man 6 0;knows 0 1;knows 1 2;").tellings(0), 1);
        Check.due("who knows of a lighter one alone", Check.made("bridge 1;man 4 0;man 5 0;man 6 0;knows 0 1;knows 1 0;").tellings(0), 1);
        HeavierToCome x = Check.made("bridge 1;man 4 0;man 5 0;man 6 0;");
        Check.due("tellings(0) tells nobody", x.tellings(0), 2);
        Check.due("man(0, 3)", x.man(0, 3), 0);
        x.know(0, 1, true);
        Check.due("one less", x.tellings(0), 1);
        x.know(1, 2, true);
        Check.due("two less", x.tellings(0), 0);
    }

    /** "NONE: by no telling": who is REMEMBERED, who is among the heaviest and cannot go by himself. */
    private static void byNoTelling() {
        Check.due("two heaviest ones", Check.made("bridge 1;man 5 0;man 5 0;").tellings(0), NONE);
        Check.due("one heavier by 1", Check.made("bridge 1;man 5 0;man 6 0;").tellings(0), 1);
        Check.due("the heaviest has gone by himself", heaviestGone(SIX + ALL_KNOW).tellings(0), NONE);
        HeavierToCome x = Check.made("bridge 1;bridge 1;man 5 0;man 6 0;man 7 0;knows 0 1;");
        x.cross(0, 0, 1);
        x.evening();
        Check.due("0 is REMEMBERED", x.tellings(0), NONE);
        Check.due("not at the other one", x.tellings(1), 1);
        x.evening();
        Check.due("0 is forgotten", x.tellings(0), 1);
    }

    private static void hired(String why, HeavierToCome x, int b, int price, int set) {
        Check.due(why + ": hired(" + b + ", 0)", x.hired(b, 0), price);
        Check.due(why + ": hired(" + b + ", 1)", x.hired(b, 1), set);
    }

    /** "may NAME one that is heavier": by one, as heavy, lighter. */
    private static void heavierOxen() {
        for (int weight : new int[] {1, 499, 500}) {
            hired("an OX of " + weight, Check.made("bridge 1;man 500 0;man 500 0;ox " + weight + " 3;"), 0, NONE, NONE);
        }
        for (int weight : new int[] {501, 502, 999}) {
            hired("an OX of " + weight, Check.made("bridge 1;man 500 0;man 500 0;ox " + weight + " 3;"), 0, 3, 1);
        }
        hired("998", Check.made("bridge 1;man 998 0;man 998 0;ox 999 3;"), 0, 3, 1);
        hired("999", Check.made("bridge 1;man 999 0;man 999 0;ox 999 3;"), 0, NONE, NONE);
    }

    /** "the SET of OXEN of the least price": 0 without OXEN or for nothing, up to 999. */
    private static void leastPrice() {
        String two = "bridge 1;man 5 0;man 5 0;";
        hired("nobody needs one", Check.made("bridge 1;man 5 0;ox 9 0;ox 9 9;"), 0, 0, 0);
        hired("for nothing", Check.made(two + "ox 6 0;"), 0, 0, 1);
        hired("for 1", Check.made(two + "ox 6 1;"), 0, 1, 1);
        hired("for 999", Check.made(two + "ox 6 999;"), 0, 999, 1);
        hired("dearer by 1", Check.made(two + "ox 6 4;ox 6 3;"), 0, 3, 2);
        hired("cheaper by 1", Check.made(two + "ox 6 2;ox 6 3;"), 0, 2, 1);
        hired("the cheaper one is not heavier", Check.made(two + "ox 5 0;ox 6 999;"), 0, 999, 2);
        hired("one is enough for both", Check.made("bridge 1;man 5 0;man 4 0;man 5 0;ox 5 1;ox 6 2;"), 0, 2, 2);
        hired("no OXEN", Check.made(two), 0, NONE, NONE);
    }

    /** "of like ones the least SET". */
    private static void leastSet() {
        String two = "bridge 1;man 5 0;man 5 0;";
        hired("all like", Check.made(two + "ox 6 7;ox 6 7;ox 6 7;ox 6 7;ox 6 7;"), 0, 7, 1);
        hired("all for nothing", Check.made(two + "ox 6 0;ox 6 0;ox 6 0;ox 6 0;ox 6 0;"), 0, 0, 1);
        hired("the fifth alone is heavier, all for nothing", Check.made(two + "ox 5 0;ox 5 0;ox 5 0;ox 5 0;ox 6 0;"), 0, 0, 16);
        hired("the second and the third are as cheap", Check.made(two + "ox 6 8;ox 6 7;ox 6 7;"), 0, 7, 2);
        hired("the least SET is none", Check.made("bridge 1;ox 6 0;"), 0, 0, 0);
    }

    /** "by which all of them can be in a TRUE ROW": by OXEN or by one another. */
    private static void allOfThem() {
        hired("0 by 1, 1 by himself", Check.made("bridge 1;man 5 0;man 6 0;knows 0 1;ox 9 1;"), 0, 0, 0);
        hired("0 knows of nobody", Check.made("bridge 1;man 5 0;man 6 0;ox 9 1;ox 6 0;"), 0, 0, 2);
        hired("one of three is not helped", Check.made("bridge 1;man 5 0;man 7 0;man 7 0;ox 6 1;"), 0, NONE, NONE);
        // An OX comes behind all, it is nobody who lives: the heaviest still goes by himself.
        hired("the heaviest goes by himself", Check.made("bridge 1;man 7 0;man 5 0;ox 6 1;"), 0, 1, 1);
        HeavierToCome x = Check.made("bridge 1;man 7 0;man 5 0;ox 6 1;ox 8 5;");
        x.cross(0, 0, NONE);
        x.evening();
        hired("he has gone by himself in this YEAR", x, 0, 5, 2);
        hired("OXEN change nothing in MOST", x, 0, 5, 2);
        Check.due("most(0, NONE)", x.most(0, NONE), 0);
    }

    /** "(who is not REMEMBERED there ...)". */
    private static void oxenAndTheRemembered() {
        HeavierToCome x = Check.made("bridge 1;bridge 1;man 5 0;man 6 0;knows 0 1;ox 9 4;");
        x.cross(0, 0, 1);
        x.know(0, 1, false);
        x.evening();
        hired("0 is REMEMBERED", x, 0, NONE, NONE);
        hired("0 is not at the other one", x, 1, 4, 1);
        x.evening();
        hired("0 is forgotten", x, 0, 4, 1);
        x = Check.made("year 9;bridge 0;bridge 0;man 5 0;man 6 0;knows 0 1;ox 9 4;");
        x.cross(0, 0, 1);
        x.cross(1, 1, NONE);
        x.evening();
        x.cross(1, 1, NONE);
        Check.due("told(6): 1 was EATEN", x.told(6), 1);
        hired("0 is REMEMBERED, but goes by himself", x, 0, 0, 0);
        x.cross(0, 0, NONE);
        x.evening();
        hired("0 is REMEMBERED and has gone by himself", x, 0, NONE, NONE);
        hired("0 at the other one", x, 1, 0, 0);
    }

    /** "who was LET GO at two BRIDGES on this DAY by unlike NAMES (nobody is one, too; those who live no more, too)". */
    private static void unlikeNamesAtTwoBridges() {
        String hills = "year 9;bridge 9;bridge 9;bridge 9;man 5 0;man 6 0;man 7 0;knows 0 1,2;knows 1 2;knows 2 0;";
        HeavierToCome x = Check.made(hills);
        x.cross(0, 0, 1);
        Check.due("one BRIDGE", x.found(0), 0);
        x.cross(1, 0, 1);
        Check.due("two BRIDGES, one NAME", x.found(0), 0);
        x.cross(2, 0, 2);
        Check.due("two of three BRIDGES by unlike NAMES", x.found(0), 1);
        x.evening();
        Check.due("on another DAY", x.found(0), 0);
        x.evening();
        x = Check.made(hills);
        x.cross(0, 0, 1);
        x.evening();
        x.cross(1, 0, 2);
        Check.due("one BRIDGE on each of two DAYS", x.found(0), 0);
        x = Check.made(hills);
        x.cross(0, 0, 1);
        x.cross(1, 2, NONE);
        x.cross(2, 2, NONE);
        Check.due("nobody twice is one NAME", x.found(0), 0);
        x.cross(0, 2, 0);
        Check.due("EATEN is not LET GO", x.found(0), 0);
        x.cross(1, 1, NONE);
        Check.due("told(6)", x.told(6), 3);
        Check.due("nobody by 1 alone", x.found(0), 0);
        nobodyIsOneToo();
        // Who lives no more: 0, LET GO by unlike NAMES, then EATEN.
        x = Check.made(hills);
        x.cross(0, 0, 1);
        x.cross(1, 0, 2);
        x.cross(2, 0, NONE);
        Check.due("told(6): 0 was EATEN", x.told(6), 6);
        Check.due("one who lives no more", x.found(0), 1);
        // NAMES that live no more are unlike still.
        x = Check.made(hills);
        x.cross(0, 0, 1);
        x.cross(1, 0, 2);
        x.cross(2, 1, NONE);
        x.cross(2, 2, 0);
        Check.due("told(6): 1 and 2 were EATEN", x.told(6), 1);
        Check.due("NAMES that live no more", x.found(0), 1);
        Check.due("NAMES that live no more", x.found(1), 1);
    }

    private static void nobodyIsOneToo() {
        HeavierToCome x = Check.made("year 9;bridge 9;bridge 9;bridge 9;man 5 0;man 6 0;knows 0 1;knows 1 0;");
        x.cross(0, 0, 1);
        x.cross(2, 1, 0);
        Check.due("told(6): 1 was EATEN", x.told(6), 1);
        Check.due("one NAME", x.found(0), 0);
        x.cross(1, 0, NONE);
        Check.due("one NAME and nobody", x.found(0), 1);
        x = Check.made("year 9;bridge 9;bridge 9;man 5 0;");
        x.cross(0, 0, NONE);
        x.cross(1, 0, NONE);
        Check.due("nobody and nobody", x.found(0), 0);
    }

    /** "who was LET GO on this DAY by a NAME that lives no more". */
    private static void aNameThatLivesNoMore() {
        HeavierToCome x = Check.made("bridge 9;bridge 9;man 5 0;man 6 0;man 7 0;knows 0 1,2;knows 1 2;");
        x.cross(0, 2, NONE);
        Check.due("nobody NAMED", x.found(1), 0);
        x.cross(0, 0, 1);
        Check.due("1 lives", x.found(1), 0);
        x.cross(1, 1, NONE);
        Check.due("1 lives no more", x.found(1), 1);
        Check.due("found(0)", x.found(0), 0);
        x.evening();
        Check.due("on another DAY", x.found(1), 0);
        Check.due("who NAMES one who lives no more is EATEN", x.cross(1, 0, 1), 0);
        Check.due("EATEN is not LET GO", x.found(1), 0);
        // The NAME crossed this BRIDGE before it was EATEN at another.
        x = Check.made("bridge 9;bridge 9;man 5 0;man 6 0;man 7 0;knows 0 1;knows 1 2;");
        x.cross(0, 0, 1);
        x.cross(0, 1, 2);
        Check.due("both live", x.found(1), 0);
        x.cross(1, 1, NONE);
        Check.due("1 is OVER and lives no more", x.found(1), 1);
        x.cross(1, 0, NONE);
        Check.due("0 lives no more either", x.found(1), 1);
        Check.due("told(6)", x.told(6), 4);
        // NAMED 0 lives no more: 0 is a TRAVELLER like any.
        x = Check.made("bridge 9;bridge 9;man 6 0;man 5 0;man 7 0;knows 1 0;");
        x.cross(0, 1, 0);
        x.cross(1, 0, NONE);
        Check.due("0 lives no more", x.found(1), 2);
    }

    /** "the one with the greatest Q; of like ones the least; NONE". */
    private static void greatestQ() {
        String text = "bridge 1;man 1 100;man 2 Q;man 3 50;knows 0 1,2;";
        int[] chances = {0, 49, 50, 51, 100};
        int[] due = {2, 2, 1, 1, 1};
        for (int k = 0; k < chances.length; k++) {
            Check.due("50 and " + chances[k], Check.made(text.replace("Q", "" + chances[k])).whom(0, 0), due[k]);
        }
        Check.due("two who never come", Check.made("bridge 1;man 1 5;man 2 0;man 2 0;knows 0 2,1;").whom(0, 0), 1);
        Check.due("one who never comes", Check.made("bridge 1;man 1 5;man 2 0;man 2 0;knows 0 2;").whom(0, 0), 2);
        Check.due("0 himself is the least", Check.made("bridge 1;man 9 7;man 2 0;man 9 7;knows 1 2,0;").whom(0, 1), 0);
        Check.due("nobody", Check.made("bridge 1;man 1 5;man 2 0;").whom(0, 0), NONE);
        Check.due("the only one goes by himself", Check.made("bridge 1;man 1 5;").whom(0, 0), NONE);
    }

    /** "of those by whom one would be LET GO now". */
    private static void onlyByWhomHeIsLetGo() {
        HeavierToCome x = Check.made("bridge 1;bridge 1;man 5 0;man 6 20;man 7 30;man 5 99;man 4 99;man 9 99;knows 0 1,2,3,4;");
        Check.due("not one as heavy, lighter, unknown", x.whom(0, 0), 2);
        x.know(0, 5, true);
        Check.due("known now", x.whom(0, 0), 5);
        x.know(0, 5, false);
        x.know(2, 5, true);
        x.cross(0, 2, 5);
        Check.due("2 is OVER", x.whom(0, 0), 1);
        Check.due("2 is not OVER the other one", x.whom(1, 0), 2);
        x.cross(1, 1, NONE);
        Check.due("1 lives no more", x.whom(0, 0), NONE);
        x.evening();
        Check.due("2 was OVER yesterday", x.whom(0, 0), 2);
        Check.due("2 is REMEMBERED himself", x.whom(0, 2), NONE);
        Check.due("2 is not at the other one", x.whom(1, 2), 5);
        x.evening();
        Check.due("2 is forgotten", x.whom(0, 2), 5);
    }
}
