/** Long runs of calls by draws, the class against the model: each answer must be the same. */
public final class ModelRunsTest {
    private static final int RUNS = 3000;
    private static final int TEXTS = 20000;
    private static final int CALLS = 500;
    private static final int[] ODD = {-1, -2, 2, 3, 5, 6, 7, 8, 9, 20, 31, 32, 33, 64, 99, 100, 101, 500,
        -1000000001, Integer.MIN_VALUE, Integer.MAX_VALUE};

    private static long seed = 20261119;
    private static HeavierToCome x;
    private static Model model;
    private static int run;
    private static int call;
    private static int men;
    private static int bridges;
    private static long answers;
    private static int[] refused = new int[4];

    public static void main(String[] args) {
        for (run = 0; run < RUNS; run++) {
            x = new HeavierToCome();
            model = new Model();
            men = 0;
            bridges = 0;
            call = 0;
            tell(someHills(run % 3 == 0 ? 6 : 2 + run % 4));
            while (call < CALLS) {
                if (draw(250) == 0) {
                    tell(draw(3) == 0 ? spoiled(someHills(draw(7))) : someHills(draw(7)));
                } else {
                    oneCall();
                }
            }
        }
        texts();
        for (int k = 0; k < refused.length; k++) {
            Check.due("enough of each REFUSAL", refused[k] > 100 ? 1 : 0, 1);
        }
        Check.end("model, by " + answers + " calls");
    }

    private static int draw(int n) {
        seed = seed * 6364136223846793005L + 1442695040888963407L;
        return (int) ((seed >>> 33) % n);
    }

    private static int same(String name, int got, int want) {
        call++;
        answers++;
        if (want <= -1000000001) {
            refused[-1000000001 - want]++;
        }
        if (got != want) {
            Check.due("run " + run + ", call " + call + ": " + name, got, want);
        }
        return want;
    }

    // ---- texts

    private static void texts() {
        for (int k = 0; k < TEXTS; k++) {
            if (k % 3 == 0) {
                x = new HeavierToCome();
                model = new Model();
                call = 0;
            }
            tell(spoiled(someHills(draw(4))));
            if (men > 0) {
                int t = draw(men);
                same("man(" + t + ", 3)", x.man(t, 3), model.man(t, 3));
                same("man(" + t + ", 0)", x.man(t, 0), model.man(t, 0));
            }
        }
    }

    private static void tell(String text) {
        if (call + text.length() / 8 + 10 > CALLS) {
            call = CALLS;
            return;
        }
        for (int from = 0; from < text.length();) {
            int n = Math.min(text.length() - from, 8);
            long bytes = seed << 8 * (n - 1) << 8;
            bytes = n == 8 ? 0 : bytes;
            for (int k = 0; k < n; k++) {
                bytes |= (long) (text.charAt(from + k) & 255) << 8 * (n - 1 - k);
            }
            same("feed(" + n + ", " + bytes + ")", x.feed(n, bytes), model.feed(n, bytes));
            from += n;
        }
        same("hills() of '" + text + "'", x.hills(), model.hills());
        same("fault() of '" + text + "'", x.fault(), model.fault());
        men = same("told(2)", x.told(2), model.told(2));
        bridges = same("told(1)", x.told(1), model.told(1));
        same("told(0)", x.told(0), model.told(0));
        same("told(3)", x.told(3), model.told(3));
        same("keep(0)", x.keep(0), model.keep(0));
    }

    private static String someHills(int most) {
        StringBuilder text = new StringBuilder();
        if (draw(3) > 0) {
            clause(text, "year ", 1 + draw(4), -1);
        }
        int weights = draw(2) == 0 ? 5 : 998;
        for (int k = 1 + draw(3); k > 0; k--) {
            clause(text, "bridge ", draw(4), -1);
        }
        for (int k = 0; k < most; k++) {
            clause(text, "man ", 1 + draw(weights), draw(3) == 0 ? 100 * draw(2) : draw(101));
        }
        for (int t = 0; t < most; t++) {
            String mark = "knows " + t + " ";
            for (int u = 0; u < most; u++) {
                if (u != t && draw(3) > 0) {
                    text.append(mark).append(u);
                    mark = ",";
                }
            }
            text.append(mark.equals(",") ? ";" : "");
        }
        for (int k = draw(5); k > 0; k--) {
            clause(text, "ox ", 1 + draw(weights + 1), draw(4));
        }
        return text.substring(0, Math.min(500, text.length()));
    }

    private static void clause(StringBuilder text, String word, int first, int second) {
        text.append(word).append(first);
        if (second >= 0) {
            text.append(' ').append(second);
        }
        text.append(';');
    }

    /** A text with one to three changes: most of them make a FAULT, some only move what is there. */
    private static String spoiled(String text) {
        StringBuilder all = new StringBuilder(text);
        String[] parts = {"year 3;", "bridge 0;", "man 5 5;", "knows 0 1;", "ox 1 1;", "knows 1 0,2;", "0", "1000", " ", "  ", ";", ",",
            "a", "9", "A", "\u00ff", "\t", "knows 0 0;", "ox 0 0;", "man 1 1", "year", "ox 1 1;ox 1 1;ox 1 1;ox 1 1;ox 1 1;",
            "bridge 1;bridge 1;bridge 1;bridge 1;bridge 1;", "man 2 2;man 2 2;man 2 2;man 2 2;man 2 2;", "\0", "-"};
        for (int k = 1 + draw(3); k > 0 && all.length() > 0; k--) {
            int place = draw(all.length() + 1);
            switch (draw(4)) {
                case 0:
                    all.delete(place, Math.min(all.length(), place + 1 + draw(3)));
                    break;
                case 1:
                    all.setLength(place);
                    break;
                default:
                    if (draw(2) == 0) {
                        place = Math.max(0, all.indexOf(";", place)) + (all.indexOf(";", place) < 0 ? 0 : 1);
                    }
                    all.insert(place, parts[draw(parts.length)]);
                    break;
            }
        }
        return all.substring(0, Math.min(500, all.length()));
    }

    // ---- calls

    private static int odd(int usual) {
        return draw(60) == 0 ? ODD[draw(ODD.length)] : usual;
    }

    private static int someone() {
        return odd(men == 0 ? 0 : draw(men));
    }

    private static int someBridge() {
        return odd(bridges == 0 ? 0 : draw(bridges));
    }

    /** Mostly one of whom t knows. */
    private static int someName(int t) {
        for (int k = 0; k < 8; k++) {
            int u = someone();
            if (u >= 0 && u < 31 && (model.man(t, 3) >> u & 1) == 1) {
                return u;
            }
        }
        return draw(2) == 0 ? -1 : someone();
    }

    private static void oneCall() {
        if (men > 0 && Integer.bitCount(model.told(6)) * 3 <= men && draw(6) == 0) {
            images(draw(2));
        }
        int b = someBridge();
        int t = someone();
        int u = someName(t);
        int i = odd(draw(8) - 1);
        boolean is = draw(2) == 0;
        switch (draw(31)) {
            case 0: case 1: case 2: case 3: cross(b, t, u); break;
            case 4: same("evening()", x.evening(), model.evening()); break;
            case 5: if (draw(3) == 0) { mostRow(b); } break;
            case 6: same("know(" + t + ", " + u + ", " + is + ")", x.know(t, u, is), model.know(t, u, is)); break;
            case 7: if (draw(3) == 0) { drift(odd(draw(6) == 0 ? 1 + draw(99) : 1)); } break;
            case 8: same("most(" + b + ", " + i + ")", x.most(b, i), model.most(b, i)); break;
            case 9: same("names(" + b + ", " + i + ")", x.names(b, i), model.names(b, i)); break;
            case 10: tellings(b); break;
            case 11: case 12: hired(b, odd(draw(2))); break;
            case 13: case 14: found(odd(draw(2))); break;
            case 15: same("whom(" + b + ", " + t + ")", x.whom(b, t), model.whom(b, t)); break;
            case 16: case 17: see(t, someone(), is); break;
            case 18: if (draw(2) == 0) { same("orders()", x.orders(), model.orders()); } break;
            case 19: if (draw(2) == 0) { same("heavier(" + t + ")", x.heavier(t), model.heavier(t)); } break;
            case 20: case 21: same("row(" + t + ", " + u + ")", x.row(t, u), model.row(t, u)); break;
            case 22: same("odds()", x.odds(), model.odds()); break;
            case 23: case 24: same("wrong(" + b + ")", x.wrong(b), model.wrong(b)); break;
            case 25: tearOrRest(); break;
            case 26: images(odd(draw(2))); break;
            case 27: same("bridge(" + b + ", " + i + ")", x.bridge(b, i), model.bridge(b, i)); break;
            case 28: same("man(" + t + ", " + i + ")", x.man(t, i), model.man(t, i)); break;
            case 29: same("named(" + b + ", " + t + ")", x.named(b, t), model.named(b, t)); break;
            default: same("told(" + i + ")", x.told(i), model.told(i)); break;
        }
        state();
    }

    private static void cross(int b, int t, int u) {
        if (draw(3) > 0) {
            crossWell(b, t);
            return;
        }
        same("cross(" + b + ", " + t + ", " + u + ")", x.cross(b, t, u), model.cross(b, t, u));
    }

    /** By a NAME by which he is LET GO, or as the heaviest who is left; else he stays, mostly. */
    private static void crossWell(int b, int t) {
        int u = model.whom(b, t);
        int ahead = model.man(t, 0);
        for (int k = 0; k < men; k++) {
            ahead = u == -1 && model.man(k, 2) == 1 ? Math.max(ahead, model.man(k, 0)) : ahead;
        }
        if (u != -1 || ahead == model.man(t, 0) || draw(12) == 0) {
            same("cross(" + b + ", " + t + ", " + u + ")", x.cross(b, t, u), model.cross(b, t, u));
        }
    }

    /** THE ROW as MOST has it, at times with another one in it. */
    private static void mostRow(int b) {
        same("tear()", x.tear(), model.tear());
        int count = model.most(b, -1);
        for (int k = 0; k < count; k++) {
            int t = draw(20) == 0 ? someone() : model.most(b, k);
            int u = draw(20) == 0 ? someone() : model.names(b, k);
            same("row(" + t + ", " + u + ")", x.row(t, u), model.row(t, u));
        }
        same("wrong(" + b + ")", x.wrong(b), model.wrong(b));
        same("odds()", x.odds(), model.odds());
    }

    private static void drift(int n) {
        same("drift(" + n + ")", x.drift(n), model.drift(n));
        int s = model.seed(0);
        same("seed(0)", x.seed(0), s);
        s = draw(2) == 0 ? s : draw(Integer.MAX_VALUE);
        same("seed(" + s + ")", x.seed(s), model.seed(s));
    }

    /** By all sets of pairs: for few TRAVELLERS alone. */
    private static void tellings(int b) {
        if (men <= 4 || Integer.bitCount(model.told(6)) <= 4) {
            same("tellings(" + b + ")", x.tellings(b), model.tellings(b));
        }
    }

    private static void hired(int b, int what) {
        same("hired(" + b + ", " + what + ")", x.hired(b, what), model.hired(b, what));
    }

    private static void found(int what) {
        same("found(" + what + ")", x.found(what), model.found(what));
    }

    private static void see(int a, int b, boolean letGo) {
        same("see(" + a + ", " + b + ", " + letGo + ")", x.see(a, b, letGo), model.see(a, b, letGo));
    }

    private static void tearOrRest() {
        switch (draw(6)) {
            case 0: same("tear()", x.tear(), model.tear()); break;
            case 1: same("ox(1, 0)", x.ox(1, 0), model.ox(1, 0)); break;
            case 2: int o = odd(draw(5)); int what = odd(draw(2)); same("ox", x.ox(o, what), model.ox(o, what)); break;
            case 3: int v = odd(draw(9)); same("seed(" + v + ")", x.seed(v), model.seed(v)); break;
            case 4: int n = odd(0); same("feed(" + n + ", 0)", x.feed(n, 0), model.feed(n, 0)); break;
            default: same("fault()", x.fault(), model.fault()); break;
        }
    }

    /** Back to an IMAGE oftener than a new one, so that not all are EATEN soon. */
    private static void images(int i) {
        if (Integer.bitCount(model.told(6)) * 3 > 2 * men || draw(20) == 0) {
            same("keep(" + i + ")", x.keep(i), model.keep(i));
        } else {
            same("goBack(" + i + ")", x.goBack(i), model.goBack(i));
        }
    }

    /** What can be read in any case: who lives, who is OVER and REMEMBERED. */
    private static void state() {
        if (draw(4) > 0) {
            return;
        }
        same("told(6)", x.told(6), model.told(6));
        int b = bridges == 0 ? 0 : draw(bridges);
        same("bridge(" + b + ", 1)", x.bridge(b, 1), model.bridge(b, 1));
        same("bridge(" + b + ", 2)", x.bridge(b, 2), model.bridge(b, 2));
    }
}
