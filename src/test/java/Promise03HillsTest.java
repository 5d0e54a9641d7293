public final class Promise03HillsTest {
    public static void main(String[] args) {
        soundTexts();
        allIsNew();
        allIsAsOfANewObject();
        aFaultChangesNothing();
        eachFaultChangesNothing();
        theTextIsEmptyThen();
        mostOfAll();
        words();
        numbers();
        travellers();
        tooMany();
        faultOrder();
        Check.end("promise 3");
    }

    private static void soundTexts() {
        Check.sound("", 0);
        Check.sound("   ", 0);
        Check.sound("year 1;", 0);
        Check.sound("year 99;", 0);
        Check.sound("year 099 ; ", 0);
        Check.sound("bridge 0;bridge 9;", 0);
        Check.sound("bridge0;man1 0;", 1);
        Check.sound("  man  999   100  ;  ", 1);
        Check.sound("man 001 000;", 1);
        Check.sound("ox 999 999;ox 1 0;", 0);
        Check.sound("man 1 1;man 1 1;man 1 1;knows 0 1 , 2;knows 0001 0;".replace("0001", "001"), 3);
        Check.sound("man 1 1;man 1 1;knows 0 1;knows 1 0;", 2);
        Check.sound("man 1 1;man 1 1;knows0 1;man 2 2;knows 2 0,1;", 3);
        Check.sound(Check.HILLS, 5);
    }

    /** DAY 0, all live, nobody OVER, no LIES; nothing SEEN, no ROW; IMAGES are gone; THE SEED stays. */
    private static void allIsNew() {
        HeavierToCome x = Check.made(Check.HILLS);
        x.cross(0, 0, 1);
        x.cross(0, 3, -1);
        x.evening();
        x.cross(0, 1, -1);
        x.cross(1, 3, -1);
        x.know(0, 4, true);
        x.see(0, 1, true);
        x.row(0, 1);
        x.seed(123);
        x.keep(0);
        x.cross(0, 2, 3);
        x.keep(1);
        Check.due("bridge(0, 1) before", x.bridge(0, 1), Check.set(2));
        Check.due("bridge(1, 1) before", x.bridge(1, 1), Check.set(3));
        Check.due("bridge(0, 2) before", x.bridge(0, 2), Check.set(0));
        Check.feed(x, Check.HILLS);
        Check.due("hills() again", x.hills(), 5);
        int[] told = {3, 2, 5, 3, 0, 0, 31, 0, 0};
        for (int what = 0; what < told.length; what++) {
            Check.due("told(" + what + ") behind hills()", x.told(what), told[what]);
        }
        for (int b = 0; b < 2; b++) {
            Check.due("who is OVER", x.bridge(b, 1), 0);
            Check.due("who is REMEMBERED", x.bridge(b, 2), 0);
        }
        Check.due("whom 0 knows of", x.man(0, 3), Check.set(1, 2));
        Check.due("heavier(0)", x.heavier(0), 0);
        Check.due("orders()", x.orders(), 120);
        Check.due("goBack(0)", x.goBack(0), Check.NOT);
        Check.due("goBack(1)", x.goBack(1), Check.NOT);
        Check.due("seed(5)", x.seed(5), 123);
        Check.due("the heaviest alone, in a YEAR of these HILLS", x.cross(0, 3, -1), 1);
        Check.due("the heaviest alone at the other BRIDGE", x.cross(1, 3, -1), 1);
        Check.due("hills() of no text", x.hills(), 0);
        int[] none = {10, 0, 0, 0, 0, 0, 0, 0, 0};
        for (int what = 0; what < none.length; what++) {
            Check.due("told(" + what + ") of no HILLS", x.told(what), none[what]);
        }
        Check.due("seed(0)", x.seed(0), 5);
    }

    private static void aFaultChangesNothing() {
        HeavierToCome x = Check.made(Check.HILLS);
        x.cross(0, 0, 1);
        x.evening();
        x.cross(0, 3, -1);
        x.see(0, 1, true);
        x.row(0, 1);
        x.keep(1);
        x.seed(9);
        String before = Check.seen(x).replace(" -1 b", " ? b");
        Check.feed(x, "year 9;bridge 1;man 2 2;man 3 3;knows 0 1;ox 1 1;oxen");
        Check.due("hills()", x.hills(), -11);
        Check.due("fault()", x.fault(), 49);
        Check.due("told(4): THE TEXT is empty", x.told(4), 0);
        Check.due("what is so", Check.seen(x).replace(" 49 b", " ? b"), before);
        Check.due("man(0, 0)", x.man(0, 0), 50);
        Check.due("man(0, 1)", x.man(0, 1), 90);
        Check.due("ox(0, 0)", x.ox(0, 0), 100);
        Check.due("ox(0, 1)", x.ox(0, 1), 30);
        Check.due("bridge(0, 0)", x.bridge(0, 0), 2);
        Check.due("goBack(1)", x.goBack(1), 1);
    }

    /** Whatever was so before, new HILLS are those of a new object with the same SEED. */
    private static void allIsAsOfANewObject() {
        String[] texts = {"", "   ", Check.HILLS, "bridge 1;", "man 5 50;man 6 60;man 7 70;",
            "year 2;bridge 1;bridge 2;man 5 50;man 6 60;man 7 70;knows 0 1,2;knows 1 2;ox 9 9;"};
        for (String text : texts) {
            Twins.alike("HILLS of '" + text + "'", () -> told(States.rich(), text), () -> told(new HeavierToCome(), text));
        }
    }

    /** New HILLS, behind whatever THE TEXT had so far; THE SEED is 77, as that of States.rich is. */
    private static HeavierToCome told(HeavierToCome x, String text) {
        Check.feed(x, "!");
        x.hills();
        x.seed(77);
        Check.told(x, text);
        return x;
    }

    /** "all else is as it was": texts that are sound far on, and then have one of the four FAULTS. */
    private static void eachFaultChangesNothing() {
        String sound = "year 7;bridge 3;man 1 1;man 2 2;man 3 3;knows 0 1,2;knows 1 0;ox 4 4;";
        String[] faulty = {"!", "year 1;", "man 5", "bridge 10;", "man 0 0;", "knows 9 0;", "knows 0 9;", "ox 1000 1;",
            "knows 0 0;", "knows 0 1;", "knows 2 0,0;", "man 1 1;".repeat(4), "bridge 1;".repeat(5), "ox 1 1;".repeat(5)};
        int[] number = {1, 1, 1, 2, 2, 2, 2, 2, 4, 4, 4, 3, 3, 3};
        for (int k = 0; k < faulty.length; k++) {
            String text = sound + faulty[k];
            int answer = -10 - number[k];
            Twins.alikeButForTheText("a FAULT of '" + text + "'", () -> faulty(States.rich(), text, answer), States::rich);
            Twins.alikeButForTheText("a FAULT of '" + text + "'", () -> faulty(new HeavierToCome(), text, answer), HeavierToCome::new);
        }
    }

    private static HeavierToCome faulty(HeavierToCome x, String text, int answer) {
        // What is in THE TEXT already is one clause, behind which no 'year' could stand.
        if (x.told(4) > 0) {
            Check.feed(x, "!");
            x.hills();
        }
        Check.feed(x, text);
        Check.due("hills() of '" + text + "'", x.hills(), answer);
        return x;
    }

    /** "(it is empty then, with a FAULT, too)". */
    private static void theTextIsEmptyThen() {
        HeavierToCome x = new HeavierToCome();
        for (String text : new String[] {"year 9;", "year 0;", "goat", " ", " ".repeat(500), "man 1 1;".repeat(7), "year 9;year 9;"}) {
            Check.feed(x, text);
            Check.due("told(4) ahead of hills()", x.told(4), text.length());
            x.hills();
            Check.due("told(4) behind hills() of '" + text + "'", x.told(4), 0);
            Check.due("feed(1) behind it", x.feed(1, ' '), 1);
            Check.due("hills() of the blank", x.hills(), 0);
        }
    }

    private static void mostOfAll() {
        String knows = "knows 0 1;knows 0 2;knows 0 3;knows 0 4;knows 0 5;knows 1 0;knows 1 2;knows 1 3;"
                + "knows 1 4;knows 1 5;knows 2 0;knows 2 1,3,4,5;";
        String all = "year 99;" + "bridge 9;".repeat(5) + "man 999 100;".repeat(6) + knows + "ox 999 999;".repeat(5);
        Check.sound(all, 6);
        HeavierToCome x = Check.made(all);
        int[] told = {99, 5, 6, 5, 0, 0, 63};
        for (int what = 0; what < told.length; what++) {
            Check.due("told(" + what + ")", x.told(what), told[what]);
        }
        Check.due("whom 2 knows of", x.man(2, 3), Check.set(0, 1, 3, 4, 5));
        Check.sound(" ".repeat(500 - all.length()) + all, 6);
        Check.told(x, all);
        Check.told(x, all);
        Check.due("told(2) of the same text again", x.told(2), 6);
    }

    private static void words() {
        Check.faulty(";", 1, 0);
        Check.faulty("  5;", 1, 2);
        Check.faulty("5000;", 1, 0);
        Check.faulty("Year 5;", 1, 0);
        Check.faulty("goat 1;", 1, 0);
        Check.faulty("years 5;", 1, 0);
        Check.faulty("yea 5;", 1, 0);
        Check.faulty("ye ar 5;", 1, 0);
        Check.faulty("bear 5;", 1, 0);
        Check.faulty("box 1 1;", 1, 0);
        Check.faulty("oxz 1 1;", 1, 0);
        Check.faulty("oxa 1 1;", 1, 0);
        Check.faulty("ox`1 1;", 1, 2);
        Check.faulty("ox{1 1;", 1, 2);
        Check.faulty("ox 1/1;", 1, 4);
        Check.faulty("ox 1:1;", 1, 4);
        Check.faulty("yearbridge 5;", 1, 0);
        Check.faulty("o", 1, 0);
        Check.faulty("ox", 1, 2);
        Check.faulty("ox  ", 1, 4);
        Check.faulty("ox;", 1, 2);
        Check.faulty("ox ox", 1, 3);
        Check.faulty("ox 1;", 1, 4);
        Check.faulty("ox 1,1;", 1, 4);
        Check.faulty("ox 1 1 1;", 1, 7);
        Check.faulty("ox 1 1 1000;", 1, 7);
        Check.faulty("ox 1 1man", 1, 6);
        Check.faulty("ox 1 1 ", 1, 7);
        Check.faulty("ox 1 1;;", 1, 7);
        Check.faulty("man 1 -1;", 1, 6);
        Check.faulty("man\t1 1;", 1, 3);
        Check.faulty("man 1\n1;", 1, 5);
        Check.faulty("bridge\u00e41;", 1, 6);
        Check.faulty("\u00e4", 1, 0);
        Check.faulty("\0", 1, 0);
        Check.faulty("bridge 1", 1, 8);
        Check.faulty("bridge 1 2;", 1, 9);
        Check.faulty("man 1 1;man 1 1;knows 0;", 1, 23);
        Check.faulty("man 1 1;man 1 1;knows 0,1;", 1, 23);
        Check.faulty("man 1 1;man 1 1;knows 0 1,;", 1, 26);
        Check.faulty("man 1 1;man 1 1;knows 0 1 1;", 1, 26);
        Check.faulty("man 1 1;man 1 1;knows 0 1", 1, 25);
        Check.faulty("man 1 1;man 1 1;knows ;", 1, 22);
        Check.faulty("man 1 1;year 5;", 1, 8);
        Check.faulty("year 5;man 1 1;year 5;", 1, 15);
        Check.faulty("ox 1 1;year 5;", 1, 7);
        Check.faulty("bridge 1;year 5;", 1, 9);
        Check.faulty("man 1 1;man 1 1;knows 0 1;year 1;", 1, 26);
        Check.faulty("man 1 1;man 1 1;knows 0 1;knows 1 0;year 1;", 1, 36);
    }

    private static void numbers() {
        Check.faulty("year 0;", 2, 5);
        Check.faulty("year 100;", 2, 5);
        Check.faulty("year 1000;", 2, 5);
        Check.faulty("year 0005;", 2, 5);
        Check.faulty("year 99999999999999999999;", 2, 5);
        Check.faulty("year 4294967301;", 2, 5);
        Check.faulty("bridge 10;", 2, 7);
        Check.faulty("bridge 0000", 2, 7);
        Check.faulty("man 0 1;", 2, 4);
        Check.faulty("man 1000 1;", 2, 4);
        Check.faulty("man 1 101;", 2, 6);
        Check.faulty("man 0 101;", 2, 4);
        Check.faulty("ox 0 1;", 2, 3);
        Check.faulty("ox 1000 1;", 2, 3);
        Check.faulty("ox 1 1000;", 2, 5);
        Check.faulty("ox 0", 2, 3);
        Check.faulty("year 0 x", 2, 5);
    }

    private static void travellers() {
        Check.faulty("knows 0 1;", 2, 6);
        Check.faulty("man 1 1;knows 1 0;", 2, 14);
        Check.faulty("man 1 1;knows 0 1;", 2, 16);
        Check.faulty("man 1 1;knows 0 1;man 1 1;", 2, 16);
        Check.faulty("man 1 1;man 1 1;knows 0 1,2;", 2, 26);
        Check.faulty("man 1 1;man 1 1;knows 0 0001;", 2, 24);
        Check.faulty("man 1 1;knows 0 0;", 4, 16);
        Check.faulty("man 1 1;man 1 1;knows 1 0,01;", 4, 26);
        Check.faulty("man 1 1;man 1 1;knows 0 1,1;", 4, 26);
        Check.faulty("man 1 1;man 1 1;knows 0 1 , 001;", 4, 28);
        Check.faulty("man 1 1;man 1 1;knows 0 1;bridge 1;knows 0 1;", 4, 43);
    }

    private static void tooMany() {
        Check.faulty("year 5;year 5;", 3, 7);
        Check.faulty("year 5;year", 3, 7);
        Check.faulty("year 5; year 0;", 3, 8);
        Check.faulty("bridge 1;".repeat(5) + "bridge 1;", 3, 45);
        Check.faulty("ox 1 1;".repeat(5) + " ox", 3, 36);
        Check.faulty("man 1 1;".repeat(6) + "man x", 3, 48);
        String men = "man 1 1;".repeat(6);
        String knows = "knows 0 1;knows 0 2;knows 0 3;knows 0 4;knows 0 5;knows 1 0;"
                + "knows 1 2;knows 1 3;knows 1 4;knows 1 5;knows 2 0;knows 2 1;";
        Check.sound(men + knows, 6);
        Check.faulty(men + knows + "knows 2 3;", 3, 168);
        Check.faulty(men + knows + "knows 9 9;", 3, 168);
    }

    /** Told is the first byte that has a FAULT, not the least number. */
    private static void faultOrder() {
        Check.faulty("year 0;goat", 2, 5);
        Check.faulty("man 1 1;knows 0 0;goat", 4, 16);
        Check.faulty("year 5;year 5;goat", 3, 7);
        Check.faulty("goat;year 0;", 1, 0);
        Check.faulty("man 1 1;knows 0 7,0;", 2, 16);
        Check.faulty("man 1 1;knows 0 0,7;", 4, 16);
    }
}
