public final class Promise02FeedTest {
    public static void main(String[] args) {
        HeavierToCome x = new HeavierToCome();
        Check.due("feed of 'ye'", x.feed(2, 'y' << 8 | 'e'), 2);
        Check.due("feed of 'ar' below bits that do not count", x.feed(2, 0x7777777777770000L | 'a' << 8 | 'r'), 4);
        Check.due("feed of '7'", x.feed(1, '7'), 5);
        Check.due("feed of ';'", x.feed(1, 0xFFFFFFFFFFFFFF00L | ';'), 6);
        Check.due("told(4)", x.told(4), 6);
        Check.due("hills()", x.hills(), 0);
        Check.due("told(0)", x.told(0), 7);
        Check.due("told(4)", x.told(4), 0);
        eightAtOnce();
        allByteValues();
        refusals();
        Check.end("promise 2");
    }

    private static void eightAtOnce() {
        HeavierToCome x = new HeavierToCome();
        // 'man 7 8;'
        Check.due("feed of 8", x.feed(8, 0x6D616E203720383BL), 8);
        Check.due("hills()", x.hills(), 1);
        Check.due("man(0, 0)", x.man(0, 0), 7);
        Check.due("man(0, 1)", x.man(0, 1), 8);
        for (int n = 1; n <= 8; n++) {
            HeavierToCome y = new HeavierToCome();
            Check.due("feed of " + n, y.feed(n, 0x2020202020202020L), n);
            Check.due("hills() of blanks", y.hills(), 0);
        }
    }

    /** Each byte but a blank is a FAULT on its own; none is taken for another one. */
    private static void allByteValues() {
        HeavierToCome x = new HeavierToCome();
        for (int value = 0; value < 256; value++) {
            x.feed(1, value);
            int want = value == 32 ? 0 : -11;
            if (x.hills() != want) {
                Check.due("hills() of byte " + value, -1, want);
            }
        }
    }

    private static void refusals() {
        HeavierToCome x = Check.made(Check.HILLS);
        x.feed(3, 0);
        for (int n : new int[] {0, 9, -1, 10, 16, 64, Integer.MIN_VALUE, Integer.MAX_VALUE}) {
            HeavierToCome y = Check.made(Check.HILLS);
            y.feed(3, 0);
            Check.refused(y, "feed(" + n + ")", () -> y.feed(n, 0x2020202020202020L), Check.OUTSIDE);
        }
        HeavierToCome full = new HeavierToCome();
        Check.feed(full, " ".repeat(496));
        Check.refused(full, "feed(5) behind 496", () -> full.feed(5, 0), Check.FULL);
        Check.due("feed(4) behind 496", full.feed(4, 0x20202020), 500);
        Check.refused(full, "feed(1) behind 500", () -> full.feed(1, 0), Check.FULL);
        Check.refused(full, "feed(8) behind 500", () -> full.feed(8, 0), Check.FULL);
        Check.refused(full, "feed(0) behind 500", () -> full.feed(0, 0), Check.OUTSIDE);
        Check.refused(full, "feed(9) behind 500", () -> full.feed(9, 0), Check.OUTSIDE);
        Check.due("hills() of 500 blanks", full.hills(), 0);
        Check.due("feed(1) behind hills()", full.feed(1, 0), 1);
    }
}
