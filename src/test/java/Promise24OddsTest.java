public final class Promise24OddsTest {
    public static void main(String[] args) {
        HeavierToCome x = Check.made(Check.HILLS);
        Check.due("odds() of nobody", x.odds(), 1000000000);
        x.row(3, Check.NONE);
        Check.due("odds() of one who NAMES nobody", x.odds(), 1000000000);
        x.row(0, 2);
        Check.due("odds() of 80", x.odds(), 800000000);
        x.row(1, 2);
        Check.due("odds() of 80 once", x.odds(), 800000000);
        x.row(2, 3);
        Check.due("odds() of 80 and 20", x.odds(), 160000000);
        x.row(4, 1);
        Check.due("odds() of 50, 80 and 20", x.odds(), 80000000);
        x.row(3, 4);
        Check.due("odds() of 100, too", x.odds(), 80000000);
        x.tear();
        Check.due("odds() behind tear()", x.odds(), 1000000000);
        x.row(0, 1);
        x.cross(0, 1, -1);
        Check.due("odds() of one who lives no more", x.odds(), 500000000);
        cut();
        HeavierToCome never = Check.made("man 1 100;man 2 0;man 3 50;");
        never.row(0, 1);
        Check.due("odds() of one who never comes", never.odds(), 0);
        never.row(0, 2);
        Check.due("odds() of another one, too", never.odds(), 0);
        Check.due("odds() without HILLS", new HeavierToCome().odds(), 1000000000);
        Check.end("promise 24");
    }

    /** One by one, rising, each cut: 13 of a hundred of the BILLION are 130000000, and so on. */
    private static void cut() {
        int[] q = {13, 7, 99, 3, 17, 23};
        HeavierToCome x = Check.made("man 1 13;man 1 7;man 1 99;man 1 3;man 1 17;man 1 23;");
        for (int t = 5; t >= 0; t--) {
            x.row(t == 0 ? 1 : 0, t == 0 ? 0 : t);
        }
        long want = 1000000000;
        for (int t = 0; t < 6; t++) {
            want = want * q[t] / 100;
        }
        Check.due("odds() of all six", x.odds(), want);
        // 1000000000 * 1 / 100 five times is 0.1, cut to 0 by the last one.
        x = Check.made("man 1 1;man 1 1;man 1 1;man 1 1;man 1 1;man 1 100;");
        x.row(5, 0);
        x.row(5, 1);
        x.row(5, 2);
        x.row(5, 3);
        Check.due("odds() of four of 1", x.odds(), 10);
        x.row(5, 4);
        Check.due("odds() of five of 1", x.odds(), 0);
        // 10 of the first four, then 19 of a hundred of it: 1, then 99 of a hundred of it: 0.
        x = Check.made("man 1 1;man 1 1;man 1 1;man 1 1;man 1 19;man 1 99;");
        x.row(5, 0);
        x.row(5, 1);
        x.row(5, 2);
        x.row(5, 3);
        x.row(0, 4);
        Check.due("odds() cut", x.odds(), 1);
        x.row(0, 5);
        Check.due("odds() cut at each", x.odds(), 0);
    }
}
