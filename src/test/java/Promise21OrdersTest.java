public final class Promise21OrdersTest {
    public static void main(String[] args) {
        int[] all = {1, 1, 2, 6, 24, 120, 720};
        for (int men = 0; men < all.length; men++) {
            Check.due("orders() of " + men, Check.made("man 5 5;".repeat(men)).orders(), all[men]);
        }
        HeavierToCome x = Check.made(Check.HILLS);
        x.see(0, 1, true);
        Check.due("orders() with 0 before 1", x.orders(), 60);
        x.see(0, 1, true);
        Check.due("orders() with it again", x.orders(), 60);
        x.see(1, 2, true);
        Check.due("orders() of a chain of three", x.orders(), 20);
        x.see(3, 2, false);
        Check.due("orders() of a chain of four", x.orders(), 5);
        x.cross(0, 4, -1);
        Check.due("orders() of all, those too who live no more", x.orders(), 5);
        x.see(4, 0, true);
        Check.due("orders(): one", x.orders(), 1);
        x.see(4, 3, true);
        Check.due("orders(): one still", x.orders(), 1);
        x.see(3, 0, true);
        Check.due("orders() of a ring", x.orders(), 0);
        x.tear();
        Check.due("orders() behind tear()", x.orders(), 120);
        x.see(0, 1, false);
        x.see(2, 1, false);
        Check.due("orders(): 1 before 0 and 2", x.orders(), 40);
        x.see(0, 1, true);
        Check.due("orders(): against one another", x.orders(), 0);
        shapes();
        Check.due("orders() without HILLS", new HeavierToCome().orders(), 1);
        Check.end("promise 21");
    }

    private static void shapes() {
        HeavierToCome x = Check.made("man 5 5;".repeat(6));
        for (int t = 0; t < 5; t++) {
            x.see(t, 5, true);
        }
        Check.due("orders(): 5 behind all", x.orders(), 120);
        x.tear();
        for (int t = 1; t < 6; t++) {
            x.see(t, 0, false);
        }
        Check.due("orders(): 0 before all", x.orders(), 120);
        x.tear();
        x.see(0, 1, true);
        x.see(2, 3, true);
        x.see(4, 5, true);
        Check.due("orders() of three pairs", x.orders(), 90);
        x.see(1, 3, true);
        x.see(0, 2, true);
        Check.due("orders() of a square and a pair", x.orders(), 30);
        Check.told(x, "man 1 1;man 2 2;");
        Check.due("orders() of new HILLS", x.orders(), 2);
    }
}
