public final class Promise18FoundTest {
    public static void main(String[] args) {
        unlikeNames();
        nobodyIsOneToo();
        threeBridges();
        namesOfTheDead();
        severalAtEachBridge();
        refusals();
        Check.end("promise 18");
    }

    private static void unlikeNames() {
        HeavierToCome x = Check.made(Check.HILLS);
        Check.due("found(0) of nobody", x.found(0), 0);
        Check.due("found(1) of nobody", x.found(1), 0);
        x.cross(0, 0, 1);
        Check.due("found(0) of one BRIDGE", x.found(0), 0);
        x.cross(1, 0, 2);
        Check.due("found(0) of unlike NAMES", x.found(0), Check.set(0));
        x.cross(0, 1, 3);
        x.cross(1, 1, 3);
        Check.due("found(0): 1 said the same", x.found(0), Check.set(0));
        Check.due("found(1)", x.found(1), 0);
        x.evening();
        Check.due("found(0) next DAY", x.found(0), 0);
        x = Check.made(Check.HILLS);
        x.cross(0, 0, 2);
        x.cross(1, 2, 3);
        Check.due("found(0): unlike ones said unlike NAMES", x.found(0), 0);
        x.cross(1, 0, -1);
        Check.due("found(0): EATEN at the other one", x.found(0), 0);
    }

    private static void nobodyIsOneToo() {
        HeavierToCome x = Check.made("bridge 1;bridge 1;bridge 1;man 5 0;man 6 0;knows 0 1;");
        x.cross(1, 1, -1);
        x.cross(0, 1, -1);
        Check.due("found(0): nobody at both", x.found(0), 0);
        x.cross(0, 0, 1);
        Check.due("told(6): 1 is OVER there", x.told(6), Check.set(1));
        x = Check.made("bridge 1;bridge 1;bridge 1;man 5 0;man 6 0;knows 0 1;");
        x.cross(0, 0, 1);
        x.cross(1, 1, -1);
        x.evening();
        x.cross(2, 0, 1);
        x.cross(1, 1, -1);
        Check.due("told(6): 1 was EATEN", x.told(6), Check.set(0));
        Check.due("found(1): 0 NAMED him", x.found(1), Check.set(0));
        x.cross(1, 0, -1);
        Check.due("found(0): one, and nobody", x.found(0), Check.set(0));
        Check.due("found(1)", x.found(1), Check.set(0));
    }

    private static void threeBridges() {
        String knows = "man 1 0;man 2 0;man 3 0;knows 0 1,2;knows 1 2;";
        for (int odd = 0; odd < 3; odd++) {
            HeavierToCome x = Check.made("bridge 1;bridge 1;bridge 1;" + knows);
            for (int b = 0; b < 3; b++) {
                x.cross(b, 0, b == odd ? 1 : 2);
                x.cross(b, 1, 2);
            }
            Check.due("found(0), unlike at " + odd, x.found(0), Check.set(0));
        }
        HeavierToCome x = Check.made("bridge 1;bridge 1;bridge 1;bridge 1;bridge 1;" + knows);
        x.cross(1, 1, 2);
        x.cross(3, 0, 1);
        x.cross(4, 0, 2);
        Check.due("found(0), unlike at 3 and 4", x.found(0), Check.set(0));
    }

    private static void namesOfTheDead() {
        HeavierToCome x = Check.made(Check.HILLS);
        x.cross(0, 0, 1);
        x.cross(1, 2, 3);
        x.cross(0, 3, -1);
        Check.due("found(1)", x.found(1), 0);
        x.cross(1, 1, -1);
        Check.due("found(1): 0 NAMED 1, who was EATEN", x.found(1), Check.set(0));
        x.cross(1, 0, -1);
        Check.due("found(1): 0 lives no more himself", x.found(1), Check.set(0));
        x.evening();
        Check.due("found(1) next DAY", x.found(1), 0);
        x = Check.made(Check.HILLS);
        x.cross(0, 0, 1);
        x.cross(1, 0, 2);
        x.cross(0, 1, -1);
        Check.due("found(0)", x.found(0), Check.set(0));
        x.know(0, 4, true);
        x.cross(0, 0, -1);
        Check.due("found(0) of one who is OVER still", x.found(0), Check.set(0));
        x = Check.made("bridge 1;bridge 1;bridge 1;man 1 0;man 2 0;man 3 0;knows 0 1,2;");
        x.cross(0, 0, 1);
        x.cross(1, 0, 2);
        x.cross(2, 0, -1);
        Check.due("told(6)", x.told(6), Check.set(1, 2));
        Check.due("found(0): those who live no more, too", x.found(0), Check.set(0));
    }

    private static void severalAtEachBridge() {
        int five = Check.set(0, 1, 2, 3, 4);
        for (int b = 0; b < 5; b++) {
            for (int c = 0; c < 5; c++) {
                if (b == c) {
                    continue;
                }
                HeavierToCome x = Check.made(Check.MOST_HILLS);
                Check.crossNaming5(x, b);
                Check.crossNamingTheNext(x, c);
                Check.due("found(0): 4 NAMED 5 at " + b + " and " + c, x.found(0), Check.set(0, 1, 2, 3));
                Check.due("found(1) at " + b + " and " + c + ", all live", x.found(1), 0);
                x.cross(b, 5, -1);
                Check.eat5(x, c);
                Check.due("found(0): 5 at " + b + " alone", x.found(0), Check.set(0, 1, 2, 3));
                Check.due("found(1) at " + b + ": all NAMED 5", x.found(1), five);
            }
            HeavierToCome x = Check.made(Check.MOST_HILLS);
            Check.crossNamingTheNext(x, b);
            Check.eat5(x, b);
            Check.due("found(1) at " + b + ": 4 alone NAMED 5", x.found(1), Check.set(4));
            Check.due("found(0) of one BRIDGE", x.found(0), 0);
        }
    }

    private static void refusals() {
        HeavierToCome x = Check.made(Check.HILLS);
        x.cross(0, 0, 1);
        for (int what : new int[] {2, -1, 3, 31, 32, Integer.MIN_VALUE, Integer.MAX_VALUE}) {
            Check.refused(x, "found(" + what + ")", () -> x.found(what), Check.OUTSIDE);
        }
    }
}
