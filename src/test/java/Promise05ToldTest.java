public final class Promise05ToldTest {
    public static void main(String[] args) {
        HeavierToCome x = Check.made(Check.HILLS);
        due(x, 3, 2, 5, 3, 0, 0, 31, 0, 0);
        x.feed(5, 0);
        due(x, 3, 2, 5, 3, 5, 0, 31, 0, 0);
        x.evening();
        x.evening();
        due(x, 3, 2, 5, 3, 5, 2, 31, 0, 0);
        x.cross(0, 0, -1);
        x.cross(1, 4, -1);
        due(x, 3, 2, 5, 3, 5, 2, Check.set(1, 2, 3), 0, 0);
        x.see(0, 1, true);
        x.see(0, 1, true);
        x.see(0, 1, false);
        due(x, 3, 2, 5, 3, 5, 2, Check.set(1, 2, 3), 3, 0);
        x.row(0, 1);
        x.row(0, -1);
        due(x, 3, 2, 5, 3, 5, 2, Check.set(1, 2, 3), 3, 2);
        x.drift(99);
        Check.due("told(5) behind drift(99)", x.told(5), 101);
        for (int what : new int[] {-1, 9, 10, 31, 32, Integer.MIN_VALUE, Integer.MAX_VALUE}) {
            Check.refused(x, "told(" + what + ")", () -> x.told(what), Check.OUTSIDE);
        }
        Check.end("promise 5");
    }

    private static void due(HeavierToCome x, int... answers) {
        for (int what = 0; what < answers.length; what++) {
            Check.due("told(" + what + ")", x.told(what), answers[what]);
        }
    }
}
