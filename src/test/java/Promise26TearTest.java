public final class Promise26TearTest {
    public static void main(String[] args) {
        HeavierToCome x = Check.made(Check.HILLS);
        Check.due("tear() of nothing", x.tear(), 0);
        x.see(0, 1, true);
        x.see(2, 1, true);
        x.see(2, 3, false);
        Check.due("tear() of three sights", x.tear(), 3);
        Check.due("told(7)", x.told(7), 0);
        Check.due("orders()", x.orders(), 120);
        Check.due("heavier(0)", x.heavier(0), 0);
        x.row(0, 1);
        x.row(1, 0);
        Check.due("tear() of a ROW of two", x.tear(), 2);
        Check.due("told(8)", x.told(8), 0);
        Check.due("odds()", x.odds(), 1000000000);
        Check.due("wrong(0)", x.wrong(0), Check.NONE);
        for (int k = 0; k < 20; k++) {
            x.see(0, 1, true);
        }
        for (int k = 0; k < 6; k++) {
            x.row(0, 1);
        }
        x.cross(0, 0, 1);
        x.seed(7);
        Check.due("tear() of both", x.tear(), 26);
        Check.due("tear() again", x.tear(), 0);
        Check.due("all else is as it was", x.bridge(0, 1), Check.set(0));
        Check.due("seed(0)", x.seed(0), 7);
        Check.due("tear() without HILLS", new HeavierToCome().tear(), 0);
        Check.end("promise 26");
    }
}
