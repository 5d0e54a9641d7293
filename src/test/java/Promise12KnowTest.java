public final class Promise12KnowTest {
    public static void main(String[] args) {
        HeavierToCome x = Check.made(Check.HILLS);
        Check.due("know(0, 1, true): he did", x.know(0, 1, true), 1);
        Check.due("man(0, 3)", x.man(0, 3), Check.set(1, 2));
        Check.due("know(0, 4, true): he did not", x.know(0, 4, true), 0);
        Check.due("man(0, 3)", x.man(0, 3), Check.set(1, 2, 4));
        Check.due("know(0, 1, false): he did", x.know(0, 1, false), 1);
        Check.due("man(0, 3)", x.man(0, 3), Check.set(2, 4));
        Check.due("know(0, 1, false): he did not", x.know(0, 1, false), 0);
        Check.due("man(0, 3)", x.man(0, 3), Check.set(2, 4));
        Check.due("cross(0, 0, 1)", x.cross(0, 0, 1), Check.NOT);
        Check.due("cross(0, 0, 4)", x.cross(0, 0, 4), 1);
        Check.due("man(4, 3): not the other way round", x.man(4, 3), Check.set(1));
        x.cross(0, 1, -1);
        Check.due("know(1, 2, true) of one who lives no more", x.know(1, 2, true), 0);
        Check.due("know(2, 1, true) about one who lives no more", x.know(2, 1, true), 0);
        Check.due("man(1, 3)", x.man(1, 3), Check.set(2, 3, 4));
        Check.due("man(2, 3)", x.man(2, 3), Check.set(1, 3));
        for (boolean is : new boolean[] {true, false}) {
            Check.refused(x, "know(0, 0)", () -> x.know(0, 0, is), Check.UNKNOWN);
            Check.refused(x, "know(5, 0)", () -> x.know(5, 0, is), Check.UNKNOWN);
            Check.refused(x, "know(0, 5)", () -> x.know(0, 5, is), Check.UNKNOWN);
            Check.refused(x, "know(-1, 0)", () -> x.know(-1, 0, is), Check.UNKNOWN);
            Check.refused(x, "know(0, -1)", () -> x.know(0, -1, is), Check.UNKNOWN);
        }
        HeavierToCome y = Check.made(Check.HILLS);
        for (int out : Check.FAR_OUT) {
            Check.due("know(" + out + ", 0, true)", y.know(out, 0, true), Check.UNKNOWN);
            Check.due("know(0, " + out + ", true)", y.know(0, out, true), Check.UNKNOWN);
            Check.due("know(" + out + ", " + out + ", true)", y.know(out, out, true), Check.UNKNOWN);
        }
        Check.due("man(0, 3)", y.man(0, 3), Check.set(1, 2));
        Check.end("promise 12");
    }
}
