import java.util.ArrayList;
import java.util.List;

/**
 * Two objects made by the same calls: one of them is refused a call, the other one is not asked. Whatever is
 * asked behind it, of what is so now, of THE TEXT, of the IMAGES, of days to come, both must answer alike.
 */
final class Twins {
    /** Makes an object, by the same calls each time. */
    interface Maker {
        HeavierToCome make();
    }

    /** One call. */
    interface Call {
        int of(HeavierToCome x);
    }

    private static final int NOW = 0;
    private static final int TEXT = 1;
    private static final int IMAGE_0 = 2;
    private static final int IMAGE_1 = 3;
    private static final int ALONE = 4;
    private static final int BY_NAMES = 5;
    private static final int EVENINGS = 6;
    private static final int DRAWS = 7;
    private static final int PROBES = 8;

    private Twins() {
    }

    static void refused(Maker maker, String call, Call asked, int want) {
        for (int probe = 0; probe < PROBES; probe++) {
            HeavierToCome one = maker.make();
            HeavierToCome other = maker.make();
            Check.due(call, asked.of(one), want);
            Check.due("probe " + probe + " behind " + call, answers(one, probe).toString(), answers(other, probe).toString());
        }
    }

    /** A call that does change what is so: the twin that is not asked must differ from it somewhere. */
    static void changes(Maker maker, String call, Call asked) {
        int unlike = 0;
        for (int probe = 0; probe < PROBES; probe++) {
            HeavierToCome one = maker.make();
            HeavierToCome other = maker.make();
            asked.of(one);
            unlike += answers(one, probe).equals(answers(other, probe)) ? 0 : 1;
        }
        Check.due(call + " changes something", unlike > 0 ? 1 : 0, 1);
    }

    /** Two objects of unlike calls, which must be alike in all. */
    static void alike(String why, Maker one, Maker other) {
        for (int probe = 0; probe < PROBES; probe++) {
            String others = answers(other.make(), probe).toString();
            Check.due("probe " + probe + ": " + why, answers(one.make(), probe).toString(), others);
        }
    }

    /** Two objects of unlike calls, which must be alike in all but THE TEXT and its FAULT. */
    static void alikeButForTheText(String why, Maker one, Maker other) {
        for (int probe = 0; probe < PROBES; probe++) {
            if (probe != TEXT) {
                String others = withoutText(answers(other.make(), probe)).toString();
                Check.due("probe " + probe + ": " + why, withoutText(answers(one.make(), probe)).toString(), others);
            }
        }
    }

    private static List<Integer> withoutText(List<Integer> all) {
        return all.subList(0, all.size() - 2);
    }

    private static List<Integer> answers(HeavierToCome x, int probe) {
        List<Integer> all = new ArrayList<>();
        switch (probe) {
            case TEXT: all.add(x.hills()); break;
            case IMAGE_0: all.add(x.goBack(0)); break;
            case IMAGE_1: all.add(x.goBack(1)); break;
            case ALONE: allAlone(x, all); break;
            case BY_NAMES: allByNames(x, all); break;
            case EVENINGS: evenings(x, all); break;
            case DRAWS: all.add(x.drift(3)); break;
            default: break;
        }
        hills(x, all);
        tried(x, all);
        all.add(x.seed(0));
        all.add(probe == NOW ? x.tear() : 0);
        // The last two, so that withoutText finds them.
        all.add(x.fault());
        all.add(x.told(4));
        return all;
    }

    /** Who may go by himself still, at which BRIDGE, on this DAY and up to the next YEAR. */
    private static void allAlone(HeavierToCome x, List<Integer> all) {
        int year = x.told(0);
        int bridges = x.told(1);
        int men = x.told(2);
        for (int day = 0; day <= Math.min(3, year); day++) {
            for (int b = 0; b < bridges; b++) {
                for (int t = 0; t < men; t++) {
                    x.keep(0);
                    all.add(x.cross(b, t, HeavierToCome.NONE));
                    x.goBack(0);
                }
            }
            x.evening();
        }
    }

    private static void allByNames(HeavierToCome x, List<Integer> all) {
        int bridges = x.told(1);
        int men = x.told(2);
        for (int b = 0; b < bridges; b++) {
            for (int t = 0; t < men; t++) {
                for (int u = 0; u < men; u++) {
                    x.keep(1);
                    all.add(x.cross(b, t, u));
                    x.goBack(1);
                }
            }
        }
    }

    private static void evenings(HeavierToCome x, List<Integer> all) {
        int bridges = x.told(1);
        for (int day = 0; day < 4; day++) {
            all.add(x.evening());
            for (int b = 0; b < bridges; b++) {
                all.add(x.bridge(b, 2));
            }
        }
    }

    private static void hills(HeavierToCome x, List<Integer> all) {
        int bridges = x.told(1);
        int men = x.told(2);
        int oxen = x.told(3);
        for (int what = 0; what <= 8; what++) {
            all.add(what == 4 ? 0 : x.told(what));
        }
        for (int b = 0; b < bridges; b++) {
            for (int what = 0; what <= 2; what++) {
                all.add(x.bridge(b, what));
            }
        }
        for (int t = 0; t < men; t++) {
            for (int what = 0; what <= 3; what++) {
                all.add(x.man(t, what));
            }
        }
        for (int o = 0; o < oxen; o++) {
            all.add(x.ox(o, 0));
            all.add(x.ox(o, 1));
        }
    }

    private static void tried(HeavierToCome x, List<Integer> all) {
        int bridges = x.told(1);
        int men = x.told(2);
        for (int b = 0; b < bridges; b++) {
            int most = x.most(b, HeavierToCome.NONE);
            all.add(most);
            for (int i = 0; i < most; i++) {
                all.add(x.most(b, i));
                all.add(x.names(b, i));
            }
            all.add(x.tellings(b));
            all.add(x.hired(b, 0));
            all.add(x.hired(b, 1));
            all.add(x.wrong(b));
            for (int t = 0; t < men; t++) {
                all.add(x.named(b, t));
                all.add(x.whom(b, t));
            }
        }
        all.add(x.found(0));
        all.add(x.found(1));
        all.add(x.orders());
        for (int t = 0; t < men; t++) {
            all.add(x.heavier(t));
        }
        all.add(x.odds());
    }
}
