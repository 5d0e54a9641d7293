/** Objects with something of all in them, for the tests that ask whether anything was changed. */
final class States {
    private States() {
    }

    /**
     * DAY 1 of these HILLS: 0 is REMEMBERED at BRIDGE 0, 3 went by himself at 0 on DAY 0 and is OVER 1; 2 is OVER 0;
     * 1 lives no more. Something is SEEN, there is a ROW, IMAGE 0, a FAULT, and THE TEXT is begun.
     */
    static HeavierToCome rich() {
        HeavierToCome x = Check.made(Check.HILLS);
        x.cross(0, 0, 1);
        x.cross(0, 3, Check.NONE);
        x.evening();
        x.keep(0);
        x.cross(1, 3, Check.NONE);
        x.cross(0, 2, 3);
        x.cross(1, 1, Check.NONE);
        x.see(0, 1, true);
        x.see(4, 3, true);
        x.see(2, 1, false);
        x.row(0, 2);
        x.row(4, 1);
        x.row(3, Check.NONE);
        x.seed(77);
        Check.feed(x, "man 5 5;goat");
        x.hills();
        Check.feed(x, "man 7 8;");
        return x;
    }

    /** As full as it may be: 500 bytes, 20 SEEN, 6 in THE ROW, both IMAGES. */
    static HeavierToCome full() {
        HeavierToCome x = withBytes(500);
        for (int k = 3; k < 20; k++) {
            x.see(0, 1, true);
        }
        for (int k = 3; k < 6; k++) {
            x.row(2, 3);
        }
        x.keep(1);
        return x;
    }

    /** With a TEXT of so many bytes, of which the first are those of one clause. */
    static HeavierToCome withBytes(int bytes) {
        HeavierToCome x = States.rich();
        Check.feed(x, " ".repeat(bytes - 8));
        return x;
    }
}
