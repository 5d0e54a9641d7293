public final class Promise04FaultTest {
    public static void main(String[] args) {
        HeavierToCome x = new HeavierToCome();
        Check.due("fault() of no hills()", x.fault(), Check.NONE);
        Check.feed(x, "year 5; goat");
        Check.due("fault() before hills()", x.fault(), Check.NONE);
        Check.due("hills()", x.hills(), -11);
        Check.due("fault()", x.fault(), 8);
        Check.due("fault() again", x.fault(), 8);
        Check.feed(x, "year");
        Check.due("fault() of the latest hills()", x.fault(), 8);
        Check.due("hills()", x.hills(), -11);
        Check.due("fault() at the end", x.fault(), 4);
        Check.feed(x, "man 5 500;");
        Check.due("hills()", x.hills(), -12);
        Check.due("fault() at the first figure", x.fault(), 6);
        Check.feed(x, "goat");
        Check.due("hills()", x.hills(), -11);
        Check.due("fault() at 0", x.fault(), 0);
        Check.feed(x, Check.HILLS);
        Check.due("hills()", x.hills(), 5);
        Check.due("fault() behind HILLS without one", x.fault(), Check.NONE);
        Check.feed(x, " ".repeat(500));
        Check.due("hills()", x.hills(), 0);
        Check.due("fault() of blanks", x.fault(), Check.NONE);
        Check.feed(x, " ".repeat(498) + "ox");
        Check.due("hills()", x.hills(), -11);
        Check.due("fault() at the length of the longest text", x.fault(), 500);
        Check.due("hills() of no text", x.hills(), 0);
        Check.due("fault() of no text", x.fault(), Check.NONE);
        Check.end("promise 4");
    }
}
