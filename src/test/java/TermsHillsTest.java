/** The term THE HILLS (1): each sentence about THE TEXT that names an edge, with both sides of it. */
public final class TermsHillsTest {
    private static final String THREE_MEN = "man 5 5;man 6 6;man 7 7;";
    private static final String SIX_MEN = "man 1 1;man 2 1;man 3 1;man 4 1;man 5 1;man 6 1;";
    private static final String TWELVE = "knows 0 1;knows 0 2;knows 0 3;knows 0 4;knows 0 5;knows 1 0;"
            + "knows 1 2;knows 1 3;knows 1 4;knows 1 5;knows 2 0;knows 2 1;";

    public static void main(String[] args) {
        fiveHundredBytes();
        boundsOfNumbers();
        boundsOfTravellers();
        howManyClauses();
        yearUntold();
        yearOnceAheadOfAll();
        whoIsToldAhead();
        figures();
        blanksMayStand();
        blanksMayNotStand();
        nothingElseIsBlank();
        twoNumbersNeedOne();
        emptyText();
        theEnd();
        wordsThatCannot();
        numbersThatCannot();
        oneTooMany();
        knownAlready();
        theLeastAtOneByte();
        theFirstByte();
        Check.end("terms, the hills");
    }

    /** "a text (500 bytes at most)". */
    private static void fiveHundredBytes() {
        String all = "year 9;bridge 3;bridge 4;" + SIX_MEN + TWELVE + "ox 7 8;ox 9 9;";
        Check.sound(" ".repeat(499 - all.length()) + all, 6);
        Check.sound(" ".repeat(500 - all.length()) + all, 6);
        Check.sound(all + " ".repeat(500 - all.length()), 6);
        HeavierToCome x = new HeavierToCome();
        Check.feed(x, " ".repeat(500 - all.length()) + all);
        Check.due("the 501st byte", x.feed(1, '!'), Check.FULL);
        Check.due("hills() of the 500 bytes", x.hills(), 6);
        Check.faulty(" ".repeat(493) + "man 1 1", 1, 500);
        Check.sound(" ".repeat(492) + "man 1 1;", 1);
        Check.faulty(" ".repeat(499) + ";", 1, 499);
    }

    /** A NUMBER between two texts: the values at its bounds and behind them, read or told as a FAULT at its first figure. */
    private static void bounds(String ahead, int least, int greatest, String behind, Twins.Call read) {
        int[] values = {0, 1, 2, least - 1, least, least + 1, greatest - 1, greatest, greatest + 1,
            98, 99, 100, 101, 998, 999, 1000, 1001, 9999, 10000, 65536 + least, Integer.MAX_VALUE};
        for (int value : values) {
            if (value < 0) {
                continue;
            }
            String text = ahead + value + behind;
            HeavierToCome x = new HeavierToCome();
            Check.feed(x, text);
            int answer = x.hills();
            if (value >= least && value <= greatest) {
                Check.due("fault() of '" + text + "'", x.fault(), Check.NONE);
                Check.due("the NUMBER of '" + text + "'", read.of(x), value);
            } else {
                Check.due("hills() of '" + text + "'", answer, -12);
                Check.due("fault() of '" + text + "'", x.fault(), ahead.length());
            }
        }
    }

    /** "1 .. 99", "0 .. 9", "WEIGHT W 1 .. 999", "0 .. 100", "for C, 0 .. 999"; FAULT 2 "out of its bounds". */
    private static void boundsOfNumbers() {
        bounds("year ", 1, 99, ";", x -> x.told(0));
        bounds("bridge ", 0, 9, ";", x -> x.bridge(0, 0));
        bounds("bridge 5;bridge ", 0, 9, ";", x -> x.bridge(1, 0));
        bounds("man ", 1, 999, " 50;", x -> x.man(0, 0));
        bounds("man 50 ", 0, 100, ";", x -> x.man(0, 1));
        bounds("man 50 50;man ", 1, 999, " 50;", x -> x.man(1, 0));
        bounds("man 50 50;man 50 ", 0, 100, ";", x -> x.man(1, 1));
        bounds("ox ", 1, 999, " 50;", x -> x.ox(0, 0));
        bounds("ox 50 ", 0, 999, ";", x -> x.ox(0, 1));
    }

    /** "a TRAVELLER that was not told yet (at its first)". */
    private static void boundsOfTravellers() {
        for (int men = 2; men <= 6; men++) {
            String told = SIX_MEN.substring(0, 8 * men);
            int last = men - 1;
            int place = told.length();
            Check.sound(told + "knows " + last + " 0;", men);
            Check.sound(told + "knows 0 " + last + ";", men);
            Check.faulty(told + "knows " + men + " 0;", 2, place + 6);
            Check.faulty(told + "knows 0 " + men + ";", 2, place + 8);
            Check.faulty(told + "knows 0 1," + men + ";", 2, place + 10);
            Check.faulty(told + "knows 0 999;", 2, place + 8);
            Check.faulty(told + "knows 999 0;", 2, place + 6);
            Check.faulty(told + "knows 0 1000;", 2, place + 8);
        }
        Check.faulty("knows 0 0;", 2, 6);
        Check.faulty("knows 1 0;", 2, 6);
        Check.faulty("man 5 5;knows 1 0;", 2, 14);
        Check.faulty("man 5 5;knows 0 1;", 2, 16);
    }

    /** "5 BRIDGES", "6 TRAVELLERS", "12" 'knows', "5 OXEN at most": as many, one less, one more. */
    private static void howManyClauses() {
        most("bridge 3;", 5, x -> x.told(1));
        most("man 5 5;", 6, x -> x.told(2));
        most("ox 5 5;", 5, x -> x.told(3));
        Check.sound(SIX_MEN + TWELVE.substring(0, 110), 6);
        Check.sound(SIX_MEN + TWELVE, 6);
        Check.faulty(SIX_MEN + TWELVE + "knows 2 3;", 3, 48 + 120);
        // It is the clauses that are counted, not whom they tell of: all 30 in six of them.
        HeavierToCome x = Check.made(SIX_MEN + "knows 0 1,2,3,4,5;knows 1 0,2,3,4,5;knows 2 0,1,3,4,5;"
                + "knows 3 0,1,2,4,5;knows 4 0,1,2,3,5;knows 5 0,1,2,3,4;");
        for (int t = 0; t < 6; t++) {
            Check.due("man(" + t + ", 3): all others", x.man(t, 3), 63 - (1 << t));
        }
        // Each kind is counted for itself, in whatever order they come.
        Check.sound("bridge 1;man 5 5;ox 5 5;".repeat(5) + "man 5 5;", 6);
        Check.faulty("bridge 1;man 5 5;ox 5 5;".repeat(5) + "man 5 5;ox 5 5;", 3, 128);
        Check.faulty("bridge 1;man 5 5;ox 5 5;".repeat(5) + "bridge 5;", 3, 120);
    }

    private static void most(String clause, int most, Twins.Call count) {
        for (int k = 0; k <= most; k++) {
            Check.due("told of " + k + " '" + clause + "'", count.of(Check.made(clause.repeat(k))), k);
        }
        Check.faulty(clause.repeat(most + 1), 3, most * clause.length());
        Check.faulty(clause.repeat(most) + "  " + clause, 3, most * clause.length() + 2);
    }

    /** "10 untold". */
    private static void yearUntold() {
        Check.due("told(0) of a new object", new HeavierToCome().told(0), 10);
        Check.due("told(0) untold", Check.made("bridge 1;").told(0), 10);
        HeavierToCome x = Check.made("year 9;");
        Check.due("told(0) of 9", x.told(0), 9);
        Check.told(x, "man 5 5;");
        Check.due("told(0) untold behind 9", x.told(0), 10);
        Check.told(x, "year 11;");
        Check.due("told(0) of 11", x.told(0), 11);
        Check.told(x, "");
        Check.due("told(0) of an empty text", x.told(0), 10);
    }

    /** "once, ahead of all else, if it is told": FAULT 1 behind another clause, 3 again. */
    private static void yearOnceAheadOfAll() {
        String[] clauses = {"bridge 1;", "man 5 5;", "ox 5 5;"};
        for (String clause : clauses) {
            Check.sound("year 9;" + clause, clause.startsWith("man") ? 1 : 0);
            Check.faulty(clause + "year 9;", 1, clause.length());
            Check.faulty("year 9;" + clause + "year 9;", 1, 7 + clause.length());
        }
        Check.faulty(THREE_MEN + "knows 0 1;year 9;", 1, 34);
        Check.faulty("year 9;year 9;", 3, 7);
        Check.faulty("year 9;  year", 3, 9);
        Check.sound("  year 9;", 0);
    }

    /** "TRAVELLER A, told ahead, knows of B, told ahead": not who is told behind. */
    private static void whoIsToldAhead() {
        Check.sound("man 5 5;man 5 5;knows 0 1;man 5 5;knows 0 2;knows 2 1;", 3);
        Check.faulty("man 5 5;man 5 5;knows 0 2;man 5 5;", 2, 24);
        Check.faulty("man 5 5;man 5 5;knows 2 0;man 5 5;", 2, 22);
        Check.faulty("knows 0 1;man 5 5;man 5 5;", 2, 6);
    }

    /** "NUMBERS have one to three figures"; FAULT 2 is "a NUMBER of four figures or more". */
    private static void figures() {
        String[] seven = {"7", "07", "007"};
        for (String number : seven) {
            HeavierToCome x = Check.made("year " + number + ";bridge " + number + ";man " + number + " " + number + ";ox "
                    + number + " " + number + ";");
            int[] read = {x.told(0), x.bridge(0, 0), x.man(0, 0), x.man(0, 1), x.ox(0, 0), x.ox(0, 1)};
            for (int k = 0; k < read.length; k++) {
                Check.due("NUMBER " + k + " of " + number, read[k], 7);
            }
        }
        String[] long7 = {"0007", "00007", "0000", "1000", "0".repeat(400) + "7", "4294967303", "18446744073709551623"};
        for (String number : long7) {
            Check.faulty("year " + number + ";", 2, 5);
            Check.faulty("bridge " + number + ";", 2, 7);
            Check.faulty("man " + number + " 7;", 2, 4);
            Check.faulty("man 7 " + number + ";", 2, 6);
            Check.faulty("ox " + number + " 7;", 2, 3);
            Check.faulty("ox 7 " + number + ";", 2, 5);
            Check.faulty(THREE_MEN + "knows " + number + " 1;", 2, 30);
            Check.faulty(THREE_MEN + "knows 1 " + number + ";", 2, 32);
        }
        Check.sound(THREE_MEN + "knows 002 001,000;", 3);
        Check.due("man(2, 3) told by 002", Check.made(THREE_MEN + "knows 002 001,00;").man(2, 3), 3);
        Check.faulty("year 0;", 2, 5);
        Check.faulty("year 00;", 2, 5);
        Check.faulty("year 000;", 2, 5);
    }

    /** "blanks (32) may stand anywhere but within words and NUMBERS". */
    private static void blanksMayStand() {
        String[] parts = {"year", "3", ";", "bridge", "2", ";", "man", "5", " ", "60", ";", "man", "70", " ", "8", ";",
            "man", "9", " ", "10", ";", "knows", "0", " ", "1", ",", "2", ";", "ox", "11", " ", "12", ";"};
        for (int k = 0; k <= parts.length; k++) {
            for (String blanks : new String[] {"", " ", "   "}) {
                StringBuilder text = new StringBuilder();
                for (int j = 0; j < parts.length; j++) {
                    text.append(j == k ? blanks : "").append(parts[j]);
                }
                asBlanksStand(text.append(k == parts.length ? blanks : "").toString());
            }
        }
        asBlanksStand(String.join("  ", parts));
        asBlanksStand("     " + String.join("     ", parts) + "     ");
    }

    private static void asBlanksStand(String text) {
        HeavierToCome x = Check.made(text);
        int[] read = {x.told(0), x.told(1), x.bridge(0, 0), x.told(2), x.man(0, 0), x.man(0, 1), x.man(1, 0), x.man(1, 1),
            x.man(2, 0), x.man(2, 1), x.man(0, 3), x.told(3), x.ox(0, 0), x.ox(0, 1)};
        int[] due = {3, 1, 2, 3, 5, 60, 70, 8, 9, 10, 6, 1, 11, 12};
        for (int k = 0; k < due.length; k++) {
            Check.due("read " + k + " of '" + text + "'", read[k], due[k]);
        }
    }

    private static void blanksMayNotStand() {
        Check.faulty("y ear 9;", 1, 0);
        Check.faulty("yea r 9;", 1, 0);
        Check.faulty("bri dge 9;", 1, 0);
        Check.faulty("m an 9 9;", 1, 0);
        Check.faulty("ma n 9 9;", 1, 0);
        Check.faulty("o x 9 9;", 1, 0);
        Check.faulty(THREE_MEN + "know s 0 1;", 1, 24);
        Check.faulty("year 1 0;", 1, 7);
        Check.faulty("bridge 0 1;", 1, 9);
        Check.faulty("man 1 0 0;", 1, 8);
        Check.faulty("ox 1 0 0;", 1, 7);
        Check.faulty(THREE_MEN + "knows 0 0 1;", 4, 32);
        Check.faulty(THREE_MEN + "knows 0 1 2;", 1, 34);
    }

    /** Each byte but 32 is looked at, wherever it stands. */
    private static void nothingElseIsBlank() {
        for (int value = 0; value < 256; value++) {
            String sign = String.valueOf((char) value);
            boolean figure = value >= '0' && value <= '9';
            if (value != 32) {
                Check.faulty(sign + "man 1 1;", 1, 0);
                Check.faulty("man 1 1;" + sign, 1, 8);
                Check.faulty("man 1 1" + sign + "2;", figure ? 2 : 1, figure ? 6 : value == ';' ? 8 : 7);
            }
            if (value != 32 && !figure) {
                Check.faulty("man 1" + sign + "1;", 1, 5);
                Check.faulty("man 1 " + sign + "1;", 1, 6);
            }
            if (value != 32 && !figure && value != ';') {
                Check.faulty("man 1 1" + sign + ";", 1, 7);
            }
            if (value != 32 && !figure && !(value >= 'a' && value <= 'z')) {
                Check.faulty("man" + sign + "1 1;", 1, 3);
            }
            if (value >= 'a' && value <= 'z') {
                Check.faulty("man" + sign + " 1 1;", 1, 0);
            }
            if (value != 32 && value != ',' && value != ';' && !figure) {
                Check.faulty("man 1 1;man 1 1;knows 0 1" + sign, 1, 25);
            }
        }
    }

    /** "two words, two NUMBERS side by side need one"; a word and a NUMBER do not. */
    private static void twoNumbersNeedOne() {
        Check.sound("man 5 0;", 1);
        Check.sound("man5 0;", 1);
        Check.faulty("man 50;", 1, 6);
        Check.faulty("man50;", 1, 5);
        Check.faulty("ox 50;", 1, 5);
        Check.faulty(THREE_MEN + "knows 01;", 1, 32);
        Check.sound(THREE_MEN + "knows0 1;", 3);
        Check.faulty("manman 5 0;", 1, 0);
        Check.faulty("man man 5 0;", 1, 4);
        Check.faulty("yearman 5 0;", 1, 0);
        Check.sound("year5;bridge5;man5 5;ox5 5;", 1);
    }

    /** "An empty text (or one of blanks alone) has no FAULT." */
    private static void emptyText() {
        Check.sound("", 0);
        for (int blanks : new int[] {1, 2, 8, 499, 500}) {
            Check.sound(" ".repeat(blanks), 0);
        }
        Check.due("hills() of a new object", new HeavierToCome().hills(), 0);
        Check.faulty(" ".repeat(10) + ";", 1, 10);
    }

    /** "(the end at the text's length)": each text cut at each byte. */
    private static void theEnd() {
        cutEverywhere("", "year 12;", 0, 0, 0, 0, 4, 5, 6, 7);
        cutEverywhere("", "bridge 1;", 0, 0, 0, 0, 0, 0, 6, 7, 8);
        cutEverywhere("", "man 23 45 ;", 0, 0, 0, 3, 4, 5, 6, 7, 8, 9, 10);
        cutEverywhere("bridge 1;", "ox 9 8;", 0, 0, 2, 3, 4, 5, 6);
        cutEverywhere(THREE_MEN, "knows 0 1 , 2;", 0, 0, 0, 0, 0, 5, 6, 7, 8, 9, 10, 11, 12, 13);
    }

    /** The first place is that of the clause cut behind nothing: no FAULT. Then behind its first byte, and on. */
    private static void cutEverywhere(String ahead, String clause, int... places) {
        Check.due("places of " + clause, places.length, clause.length());
        for (int cut = 1; cut < clause.length(); cut++) {
            Check.faulty(ahead + clause.substring(0, cut), 1, ahead.length() + places[cut]);
        }
        HeavierToCome x = new HeavierToCome();
        Check.feed(x, ahead);
        Check.due("hills() of '" + ahead + "'", Math.min(0, x.hills()), 0);
        Check.feed(x, ahead + clause);
        Check.due("hills() of '" + ahead + clause + "'", Math.min(0, x.hills()), 0);
    }

    /** "1 it cannot stand there (a word that cannot ...: at its first letter)". */
    private static void wordsThatCannot() {
        String[] words = {"a", "z", "goat", "yearr", "yea", "bridges", "bridg", "men", "mann", "know", "knowss", "knew", "o", "oxx", "oxen", "yxar"};
        for (String word : words) {
            Check.faulty(word + " 1 1;", 1, 0);
            Check.faulty("   " + word, 1, 3);
            Check.faulty("year 5;" + word + "1;", 1, 7);
            Check.faulty("man 5 5; " + word + " 0 0", 1, 9);
        }
        String[] clauses = {"year", "bridge", "man", "knows", "ox"};
        for (String word : clauses) {
            Check.faulty("bridge " + word, 1, 7);
            Check.faulty("man 5 " + word + ";", 1, 6);
            Check.faulty("man 5 5" + word + ";", 1, 7);
            Check.faulty("man 5 5 ;; " + word, 1, 9);
            Check.faulty(word.toUpperCase() + " 5;", 1, 0);
        }
    }

    private static void numbersThatCannot() {
        Check.faulty("5", 1, 0);
        Check.faulty("year 5; 5", 1, 8);
        Check.faulty("year 5 5;", 1, 7);
        Check.faulty("bridge 5,5;", 1, 8);
        Check.faulty("man 5,5;", 1, 5);
        Check.faulty("man 5 5,5;", 1, 7);
        Check.faulty("man ,5 5;", 1, 4);
        Check.faulty(THREE_MEN + "knows 0,1;", 1, 31);
        Check.faulty(THREE_MEN + "knows 0 ,1;", 1, 32);
        Check.faulty(THREE_MEN + "knows 0 1,,2;", 1, 34);
        Check.faulty(THREE_MEN + "knows 0 1,;", 1, 34);
        Check.faulty(THREE_MEN + "knows 0;", 1, 31);
        Check.faulty(THREE_MEN + "knows;", 1, 29);
        Check.faulty("man -5 5;", 1, 4);
        Check.faulty("man +5 5;", 1, 4);
        Check.faulty("man 5.0 5;", 1, 5);
    }

    /** "3 'year' again, a sixth BRIDGE, OX, a seventh TRAVELLER, a 13th 'knows' (at its first letter)", whatever comes behind it. */
    private static void oneTooMany() {
        Check.faulty("year 9;year", 3, 7);
        Check.faulty("year 9;year 0;", 3, 7);
        Check.faulty("bridge 1;".repeat(5) + " bridge", 3, 46);
        Check.faulty("bridge 1;".repeat(5) + "bridge 10;", 3, 45);
        Check.faulty("ox 1 1;".repeat(5) + " ox;", 3, 36);
        Check.faulty(SIX_MEN + "man", 3, 48);
        Check.faulty(SIX_MEN + "man 0 0;", 3, 48);
        Check.faulty(SIX_MEN + TWELVE + "  knows", 3, 170);
        Check.faulty(SIX_MEN + TWELVE + "knows 0 1;", 3, 168);
        // A word that is none is no sixth one.
        Check.faulty("bridge 1;".repeat(5) + "bridges 1;", 1, 45);
        Check.faulty(SIX_MEN + "mann 1 1;", 1, 48);
    }

    /** "4 B like A, known already, by any clause (at it)". */
    private static void knownAlready() {
        Check.faulty(THREE_MEN + "knows 0 0;", 4, 32);
        Check.faulty(THREE_MEN + "knows 2 2;", 4, 32);
        Check.faulty(THREE_MEN + "knows 2 0,1,2;", 4, 36);
        Check.faulty(THREE_MEN + "knows 2 0,0;", 4, 34);
        Check.faulty(THREE_MEN + "knows 2 0,1,0;", 4, 36);
        Check.faulty(THREE_MEN + "knows 2 0,1 , 000;", 4, 38);
        Check.faulty(THREE_MEN + "knows 2 0;knows 2 0;", 4, 42);
        Check.faulty(THREE_MEN + "knows 2 0;knows 1 0;knows 2 1,0;", 4, 54);
        // The other way round, and of another one, it is not known yet.
        Check.sound(THREE_MEN + "knows 2 0;knows 0 2;", 3);
        Check.sound(THREE_MEN + "knows 2 0;knows 1 0;", 3);
        Check.sound(THREE_MEN + "knows 2 0;knows 2 1;", 3);
        // What an earlier text told is not known in this one.
        HeavierToCome x = Check.made(THREE_MEN + "knows 0 1;");
        Check.told(x, THREE_MEN + "knows 0 1;");
        x.know(0, 2, true);
        Check.told(x, THREE_MEN + "knows 0 2,1;");
        Check.feed(x, THREE_MEN + "knows 1 0,0;");
        Check.due("hills()", x.hills(), -14);
        Check.told(x, THREE_MEN + "knows 1 0;");
        Check.due("man(0, 3)", x.man(0, 3), 0);
        Check.due("man(1, 3)", x.man(1, 3), 1);
    }

    /** "of these the least". */
    private static void theLeastAtOneByte() {
        // 1 and 3: 'year' again, behind another clause.
        Check.faulty("year 9;ox 1 1;year 9;", 1, 14);
        // 1 and 2: a NUMBER of four figures where none can stand.
        Check.faulty("1000", 1, 0);
        Check.faulty("year 9;1000;", 1, 7);
        Check.faulty("man 5 5 1000;", 1, 8);
        // 2 and 4: B like A or known already, in four figures.
        Check.faulty(THREE_MEN + "knows 0 0000;", 2, 32);
        Check.faulty(THREE_MEN + "knows 0 1,0001;", 2, 34);
        // 2 and 4: A is not told yet, B is like A.
        Check.faulty("man 5 5;knows 1 1;", 2, 14);
    }

    /** "at the first byte that has one", be it of a greater number than a FAULT behind it. */
    private static void theFirstByte() {
        Check.faulty(THREE_MEN + "knows 0 0 !", 4, 32);
        Check.faulty(THREE_MEN + "knows 0 0,9;", 4, 32);
        Check.faulty(THREE_MEN + "knows 0 9,0;", 2, 32);
        Check.faulty("year 0 !", 2, 5);
        Check.faulty("year 9;year !", 3, 7);
        Check.faulty("man 0 101;", 2, 4);
        Check.faulty("man 1 101!", 2, 6);
        Check.faulty("man 0", 2, 4);
        Check.faulty("man 1000", 2, 4);
        Check.faulty("goat;year 0;", 1, 0);
    }
}
