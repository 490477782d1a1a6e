import java.util.EnumMap;
import java.util.List;
import java.util.Map;

/**
 * "==== 3.", promise by promise: of each argument the last number that can be and the first that can't, on both
 * sides, the STATUS of each refused call, which of two holds first, and that it changed nothing else.
 */
public final class BoundsTest extends EdgeCheck {
    private static final int LEAST = Integer.MIN_VALUE;
    private static final int MOST = Integer.MAX_VALUE;
    private static final int CLOCKS_BEHIND = 37;

    /** What an object has behind it as it is called. */
    private enum Setup {
        /** Nothing. */
        FRESH,
        /** An error of 0 at each clock: 2 of 3 elements, one fold, 10 clocks. */
        STEADY,
        /** Something of everything: more told than is kept, hits, wrong numbers of the comb, debts, 12 asked. */
        BUSY
    }

    private static final Map<Setup, List<String>> NOW = new EnumMap<>(Setup.class);
    private static final Map<Setup, List<String>> LATER = new EnumMap<>(Setup.class);

    public static void main(String[] args) {
        for (Setup setup : Setup.values()) {
            NOW.put(setup, picture(make(setup)));
            NoiseShaper of = make(setup);
            of.clocks(CLOCKS_BEHIND);
            LATER.put(setup, picture(of));
        }
        busyIsBusy();
        sourceAndLoop();
        elementsAndFilters();
        stages();
        latestNumbers();
        parts();
        reckoned();
        tones();
        onPaper();
        notComingRound();
        askingChangesNothing();
        statusItself();
        end();
    }

    private static NoiseShaper make(Setup setup) {
        x = new NoiseShaper();
        if (setup == Setup.STEADY) {
            alwaysTelling(2, 4);
            x.folds(1, 0, 0, 0);
            x.clocks(10);
        }
        if (setup == Setup.BUSY) {
            for (int i = 0; i < 16; i++) {
                x.sample(i, i * 29 - 210);
                x.deviation(i, 7 * i - 50);
            }
            x.source(3, 1, 2, 3);
            x.loop(2, 2, 60, 5, 70, true);
            x.dither(20, 12345);
            x.way(2);
            x.comb(3, 2, 12, 1);
            x.taps(-5, 1, 40, 77, 6);
            x.folds(3, 3, 2, 1);
            x.clocks(400);
            for (int u = 0; u < 12; u++) {
                x.tone(u, 0);
            }
        }
        return x;
    }

    /** A setup that has nothing to lose would tell nothing of what a refused call changed. */
    private static void busyIsBusy() {
        sentence("a busy object");
        x = make(Setup.BUSY);
        is("12 elements", x.state(9), 12);
        is("there were hits", Math.min(1, x.state(7)), 1);
        is("the comb was wrong", Math.min(1, x.wrong(0)), 1);
        is("there are debts", x.element(0, 2) == 0 && x.element(1, 2) == 0 ? 0 : 1, 1);
        is("the last fold told", x.told(6), 25);
        is("asked", x.state(13), 12);
    }

    // ---- helpers

    private static void taken(Setup setup, String name, int... arguments) {
        NoiseShaper of = make(setup);
        call(of, name, arguments);
        if (of.status() != 0) {
            fault(text(name, arguments) + " of " + setup + " has status " + of.status() + ", due is 0");
        }
    }

    private static void refused(Setup setup, int status, String name, int... arguments) {
        NoiseShaper of = make(setup);
        long got = call(of, name, arguments);
        String call = text(name, arguments) + " of " + setup;
        if (got != NoiseShaper.NONE || of.status() != status) {
            fault(call + " answered " + got + " with status " + of.status() + ", due is -1 with status " + status);
        }
        same("behind " + call, picture(of), NOW.get(setup));
        of = make(setup);
        call(of, name, arguments);
        of.clocks(CLOCKS_BEHIND);
        same(CLOCKS_BEHIND + " clocks behind " + call, picture(of), LATER.get(setup));
    }

    /** One argument of a call, the others as told: from least to most it can be, beyond that it has the status. */
    private static void ends(Setup setup, int status, int least, int most, int which, String name, int... others) {
        taken(setup, name, with(others, which, least));
        taken(setup, name, with(others, which, most));
        refused(setup, status, name, with(others, which, least - 1));
        refused(setup, status, name, with(others, which, LEAST));
        if (most < MOST) {
            refused(setup, status, name, with(others, which, most + 1));
            refused(setup, status, name, with(others, which, MOST));
        }
    }

    private static int[] with(int[] others, int which, int argument) {
        int[] all = others.clone();
        all[which] = argument;
        return all;
    }

    // ---- promises 3 to 6

    private static void sourceAndLoop() {
        sentence("3: source (1): A, B -30,000 to 30,000, C 1 to 1,000");
        ends(Setup.BUSY, 1, 0, 3, 0, "source", 0, 1, 2, 3);
        ends(Setup.BUSY, 1, -30000, 30000, 1, "source", 0, 0, 0, 1);
        ends(Setup.BUSY, 1, -30000, 30000, 2, "source", 0, 0, 0, 1);
        ends(Setup.BUSY, 1, 1, 1000, 3, "source", 0, 0, 0, 1);
        refused(Setup.FRESH, 1, "source", LEAST, MOST, LEAST, MOST);

        sentence("4: sample (1): SAMPLES 0 to 15");
        ends(Setup.BUSY, 1, 0, 15, 0, "sample", 0, 9);
        // The document tells no bounds of a sample itself.
        taken(Setup.BUSY, "sample", 0, LEAST);
        taken(Setup.BUSY, "sample", 0, MOST);

        sentence("5: loop (1): KIND 0 to 2, ORDER 1 to 4, STEP 1 to 5,000, LEVELS 2 to 17, LIMIT 1 to 60,000");
        ends(Setup.BUSY, 1, 0, 2, 0, "loop", 0, 1, 100, 2, 60000, 0);
        for (int kind = 0; kind < 2; kind++) {
            ends(Setup.BUSY, 1, 1, 4, 1, "loop", kind, 1, 100, 17, 60000, 1);
            ends(Setup.BUSY, 1, 2, 17, 3, "loop", kind, 4, 100, 2, 60000, 1);
        }
        for (int kind = 0; kind < 3; kind++) {
            ends(Setup.BUSY, 1, 1, 5000, 2, "loop", kind, 1, 100, 2, 60000, 0);
            ends(Setup.BUSY, 1, 1, 60000, 4, "loop", kind, 1, 100, 2, 60000, 0);
        }
        refused(Setup.FRESH, 1, "loop", MOST, MOST, MOST, MOST, MOST, 1);

        sentence("5: of KIND 2 so that there are 16 ELEMENTS or fewer");
        int[] mostLevels = {17, 6, 3, 2};
        for (int order = 1; order <= 4; order++) {
            ends(Setup.BUSY, 1, 2, mostLevels[order - 1], 3, "loop", 2, order, 100, 2, 60000, 0);
            ends(Setup.BUSY, 1, 1, order, 1, "loop", 2, 1, 100, mostLevels[order - 1], 60000, 0);
        }
        ends(Setup.BUSY, 1, 0, 1, 0, "loop", 0, 2, 100, 7, 60000, 0);

        sentence("6: dither (1): D 0 to 5,000, SEED 0 to 2147483647");
        ends(Setup.BUSY, 1, 0, 5000, 0, "dither", 0, 77);
        ends(Setup.BUSY, 1, 0, MOST, 1, "dither", 77, 0);
        ends(Setup.BUSY, 1, 0, MOST, 1, "dither", 0, 0);
    }

    // ---- promises 7 to 11

    private static void elementsAndFilters() {
        sentence("7: way (1)");
        ends(Setup.BUSY, 1, 0, 2, 0, "way", 0);

        sentence("8: deviation (1: DEVIATION; 2): -99 to 99, ELEMENT 0 to 15, also such as there is not now");
        for (Setup setup : Setup.values()) {
            ends(setup, 1, -99, 99, 1, "deviation", 15, 0);
            ends(setup, 2, 0, 15, 0, "deviation", 0, 99);
        }
        refused(Setup.BUSY, 1, "deviation", 16, 100);
        refused(Setup.BUSY, 1, "deviation", -1, -100);

        sentence("9: comb (1): ORDER 1 to 5, RATIO 1 to 16, WIDTH 8 to 32, IN 0, 1");
        ends(Setup.BUSY, 1, 1, 5, 0, "comb", 1, 16, 8, 0);
        ends(Setup.BUSY, 1, 1, 16, 1, "comb", 5, 1, 8, 0);
        ends(Setup.BUSY, 1, 8, 32, 2, "comb", 1, 1, 8, 0);
        ends(Setup.BUSY, 1, 0, 1, 3, "comb", 1, 1, 8, 0);

        sentence("10: taps (1): the first four -999 to 999 each, SHIFT 0 to 12");
        for (int tap = 0; tap < 4; tap++) {
            ends(Setup.BUSY, 1, -999, 999, tap, "taps", 1, 1, 1, 1, 3);
        }
        ends(Setup.BUSY, 1, 0, 12, 4, "taps", 1, 1, 1, 1, 3);

        sentence("11: folds (1): how many 0 to 3, the TAPS of each 0 to 3, also of such as are not");
        ends(Setup.BUSY, 1, 0, 3, 0, "folds", 0, 3, 3, 3);
        for (int many = 0; many <= 3; many++) {
            for (int fold = 1; fold <= 3; fold++) {
                ends(Setup.BUSY, 1, 0, 3, fold, "folds", many, 0, 0, 0);
            }
        }
    }

    // ---- promises 12 to 14, and other calls of a stage

    private static void stages() {
        sentence("12: anew (2: not 0 to 6)");
        for (Setup setup : Setup.values()) {
            ends(setup, 2, 0, 6, 0, "anew", 0);
        }

        sentence("13: clocks (1): 1 to 400");
        for (Setup setup : Setup.values()) {
            ends(setup, 1, 1, 400, 0, "clocks", 1);
        }

        sentence("14: told (2): a silent FOLD is a STAGE");
        for (Setup setup : Setup.values()) {
            ends(setup, 2, 0, 6, 0, "told", 0);
        }
    }

    // ---- promises 15 to 20

    private static void latestNumbers() {
        sentence("15: latest (1: i below 0; 2; 5)");
        ends(Setup.BUSY, 2, 0, 6, 0, "latest", 0, 24);
        ends(Setup.BUSY, 2, 0, 6, 0, "latest", 0, 0);
        int[] kept = {48, 48, 48, 48, 48, 48, 25};
        for (int stage = 0; stage < 7; stage++) {
            taken(Setup.BUSY, "latest", stage, kept[stage] - 1);
            refused(Setup.BUSY, 5, "latest", stage, kept[stage]);
            refused(Setup.BUSY, 5, "latest", stage, MOST);
            refused(Setup.BUSY, 1, "latest", stage, -1);
            refused(Setup.FRESH, 5, "latest", stage, 0);
        }
        refused(Setup.BUSY, 1, "latest", 0, LEAST);
        refused(Setup.BUSY, 1, "latest", 7, -1);
        refused(Setup.BUSY, 1, "latest", -1, -1);
        refused(Setup.FRESH, 2, "latest", 7, 48);
        refused(Setup.FRESH, 1, "latest", 0, -1);
        taken(Setup.STEADY, "latest", 4, 4);
        refused(Setup.STEADY, 5, "latest", 4, 5);
        refused(Setup.STEADY, 5, "latest", 5, 0);

        sentence("16: state (1): what 0 to 13");
        ends(Setup.BUSY, 1, 0, 13, 0, "state", 0);
        ends(Setup.FRESH, 1, 0, 13, 0, "state", 0);

        sentence("17: sum (1): what 0 to 5");
        ends(Setup.BUSY, 1, 0, 5, 0, "sum", 0);
        ends(Setup.FRESH, 1, 0, 5, 0, "sum", 0);

        sentence("18: gap (1: n, what; 5: of 2 LATEST has not so many): n 1 to 48");
        ends(Setup.BUSY, 1, 0, 2, 0, "gap", 0, 48);
        ends(Setup.BUSY, 1, 1, 48, 1, "gap", 2, 1);
        taken(Setup.STEADY, "gap", 2, 10);
        refused(Setup.STEADY, 5, "gap", 2, 11);
        refused(Setup.STEADY, 5, "gap", 2, 48);
        refused(Setup.STEADY, 1, "gap", 2, 49);
        refused(Setup.FRESH, 5, "gap", 2, 1);
        refused(Setup.FRESH, 1, "gap", 2, 0);
        refused(Setup.FRESH, 1, "gap", 3, 1);
        taken(Setup.FRESH, "gap", 0, 0);
        taken(Setup.FRESH, "gap", 1, 0);

        sentence("19: range (1; 2; 5: it has none): what 0 to 2");
        for (int stage = 0; stage < 7; stage++) {
            ends(Setup.BUSY, 1, 0, 2, 1, "range", stage, 0);
            refused(Setup.FRESH, 5, "range", stage, 2);
        }
        ends(Setup.BUSY, 2, 0, 6, 0, "range", 0, 2);
        refused(Setup.FRESH, 2, "range", 7, 0);
        refused(Setup.FRESH, 1, "range", 7, 3);
        refused(Setup.FRESH, 1, "range", 0, 3);
        refused(Setup.STEADY, 5, "range", 5, 0);

        sentence("20: steady (1; 2; 5: it has none): d 0 to 30,000");
        for (int stage = 0; stage < 7; stage++) {
            ends(Setup.BUSY, 1, 0, 30000, 1, "steady", stage, 0);
            refused(Setup.FRESH, 5, "steady", stage, 30000);
        }
        ends(Setup.BUSY, 2, 0, 6, 0, "steady", 0, 0);
        refused(Setup.FRESH, 2, "steady", 7, 0);
        refused(Setup.FRESH, 1, "steady", 7, -1);
        refused(Setup.FRESH, 1, "steady", 0, 30001);
        refused(Setup.STEADY, 5, "steady", 5, 0);
    }

    // ---- promises 21 to 25

    private static void parts() {
        sentence("21: element (1; 2): of an ELEMENT that there is, what 0 to 4");
        ends(Setup.BUSY, 1, 0, 4, 1, "element", 11, 0);
        ends(Setup.BUSY, 2, 0, 11, 0, "element", 0, 4);
        ends(Setup.STEADY, 2, 0, 2, 0, "element", 0, 0);
        ends(Setup.FRESH, 2, 0, 0, 0, "element", 0, 0);
        refused(Setup.BUSY, 1, "element", 12, 5);
        refused(Setup.BUSY, 1, "element", -1, -1);

        sentence("23: combed (1: not 0 to 4; 5: not below ORDER)");
        for (Setup setup : Setup.values()) {
            int order = setup == Setup.BUSY ? 3 : 1;
            for (int i = 0; i < 5; i++) {
                if (i < order) {
                    taken(setup, "combed", i);
                } else {
                    refused(setup, 5, "combed", i);
                }
            }
            for (int i : new int[] {-1, 5, LEAST, MOST}) {
                refused(setup, 1, "combed", i);
            }
        }

        sentence("24: wrong (1; 5: none was told)");
        ends(Setup.BUSY, 1, 0, 1, 0, "wrong", 0);
        taken(Setup.FRESH, "wrong", 0);
        refused(Setup.FRESH, 5, "wrong", 1);
        refused(Setup.FRESH, 1, "wrong", 2);
        refused(Setup.FRESH, 1, "wrong", -1);

        sentence("25: work (1; 2: it is not told): of a FOLD, what 0, 1");
        ends(Setup.BUSY, 1, 0, 1, 1, "work", 2, 0);
        ends(Setup.BUSY, 2, 0, 2, 0, "work", 0, 1);
        ends(Setup.STEADY, 2, 0, 0, 0, "work", 0, 1);
        refused(Setup.FRESH, 2, "work", 0, 0);
        refused(Setup.FRESH, 1, "work", 0, 2);
        refused(Setup.STEADY, 1, "work", 1, -1);
        refused(Setup.STEADY, 1, "work", 3, 2);
    }

    // ---- promises 26 to 30

    private static void reckoned() {
        sentence("26: need (1; 5): most 0 to 100,000");
        for (Setup setup : Setup.values()) {
            ends(setup, 1, 0, 100000, 0, "need", 0);
        }

        sentence("27: response (1: below 0; 5: behind its end)");
        taken(Setup.FRESH, "response", 0);
        refused(Setup.FRESH, 5, "response", 1);
        taken(Setup.BUSY, "response", 3);
        refused(Setup.BUSY, 5, "response", 4);
        refused(Setup.BUSY, 5, "response", 76);
        refused(Setup.BUSY, 5, "response", MOST);
        refused(Setup.BUSY, 1, "response", -1);
        refused(Setup.BUSY, 1, "response", LEAST);

        sentence("28: half (1): TAPS 0 to 3, what 0 to 3");
        ends(Setup.BUSY, 1, 0, 3, 0, "half", 0, 3);
        ends(Setup.BUSY, 1, 0, 3, 1, "half", 3, 0);
        refused(Setup.FRESH, 1, "half", MOST, LEAST);

        sentence("29: beat (1; 2: not 0 to 2; 5: LATEST has not more than LAG): LAG 0 to 47");
        for (int stage = 0; stage < 3; stage++) {
            ends(Setup.BUSY, 1, 0, 47, 1, "beat", stage, 0);
            taken(Setup.STEADY, "beat", stage, 9);
            refused(Setup.STEADY, 5, "beat", stage, 10);
            refused(Setup.STEADY, 5, "beat", stage, 47);
            refused(Setup.STEADY, 1, "beat", stage, 48);
            refused(Setup.FRESH, 5, "beat", stage, 0);
        }
        ends(Setup.BUSY, 2, 0, 2, 0, "beat", 0, 47);
        refused(Setup.FRESH, 2, "beat", 3, 0);
        refused(Setup.FRESH, 1, "beat", 3, 48);
        refused(Setup.BUSY, 1, "beat", 7, -1);

        sentence("30: tonal (2: not 0 to 2; 5: LATEST has not more than 24)");
        ends(Setup.BUSY, 2, 0, 2, 0, "tonal", 0);
        for (int stage = 0; stage < 3; stage++) {
            refused(Setup.FRESH, 5, "tonal", stage);
            refused(Setup.STEADY, 5, "tonal", stage);
        }
        refused(Setup.FRESH, 2, "tonal", 3);
        refused(Setup.FRESH, 2, "tonal", -1);
    }

    // ---- promises 31 to 34

    private static void tones() {
        sentence("31: tone (1; 5: it does not COME ROUND): u -30,000 to 30,000, what 0 to 5");
        ends(Setup.FRESH, 1, -30000, 30000, 0, "tone", 0, 5);
        ends(Setup.BUSY, 1, 0, 5, 1, "tone", 7, 0);
        refused(Setup.BUSY, 1, "tone", 30001, 0);
        refused(Setup.BUSY, 1, "tone", -30001, 6);

        sentence("32: out (1): u -30,000 to 30,000, t 0 to 999");
        ends(Setup.BUSY, 1, -30000, 30000, 0, "out", 0, 999);
        ends(Setup.BUSY, 1, 0, 999, 1, "out", 30000, 0);

        sentence("33: asked (1: below 0; 5)");
        taken(Setup.BUSY, "asked", 11);
        refused(Setup.BUSY, 5, "asked", 12);
        refused(Setup.BUSY, 5, "asked", MOST);
        refused(Setup.BUSY, 1, "asked", -1);
        refused(Setup.BUSY, 1, "asked", LEAST);
        refused(Setup.FRESH, 5, "asked", 0);
        refused(Setup.FRESH, 1, "asked", -1);

        sentence("34: idle (1): many 1 to 60, most 1 to 1,000; u and these are -30,000 to 30,000");
        ends(Setup.BUSY, 1, -30000, 30000, 0, "idle", 0, 1, 1000, 0);
        ends(Setup.BUSY, 1, -30000, 29941, 0, "idle", 0, 60, 1000, 0);
        ends(Setup.BUSY, 1, 1, 60, 1, "idle", 0, 1, 1000, 0);
        ends(Setup.BUSY, 1, 1, 2, 1, "idle", 29999, 1, 1000, 0);
        ends(Setup.BUSY, 1, 1, 1, 1, "idle", 30000, 1, 1000, 0);
        ends(Setup.BUSY, 1, 1, 1000, 2, "idle", 0, 1, 1, 0);
        ends(Setup.STEADY, 1, 0, 1, 3, "idle", 100, 1, 1, 0);

        sentence("34: idle (5: of 1 none)");
        // A period of 4.
        taken(Setup.FRESH, "idle", 50, 1, 4, 1);
        taken(Setup.FRESH, "idle", 50, 1, 3, 0);
        refused(Setup.FRESH, 5, "idle", 50, 1, 3, 1);
        refused(Setup.FRESH, 1, "idle", 50, 1, 0, 1);
    }

    // ---- promises 35 to 38

    private static void onPaper() {
        sentence("35: next (1: not 0 to M)");
        ends(Setup.BUSY, 1, 0, 12, 0, "next", 0);
        ends(Setup.STEADY, 1, 0, 3, 0, "next", 0);
        ends(Setup.FRESH, 1, 0, 1, 0, "next", 0);

        sentence("36: ahead (1): so many CLOCKS 1 to 200, WAY 0 to 2, what 0 to 2");
        ends(Setup.BUSY, 1, 1, 200, 0, "ahead", 1, 0, 0);
        ends(Setup.BUSY, 1, 0, 2, 1, "ahead", 200, 0, 0);
        ends(Setup.BUSY, 1, 0, 2, 2, "ahead", 200, 0, 0);

        sentence("37: strain (1): so many CLOCKS 1 to 200, LIMIT 1 to 60,000");
        ends(Setup.BUSY, 1, 1, 200, 0, "strain", 1, 60);
        ends(Setup.BUSY, 1, 1, 60000, 1, "strain", 200, 1);

        sentence("38: calmed (1; 5): so many CLOCKS 1 to 60, up to most, 1 to 400");
        ends(Setup.STEADY, 1, 1, 60, 0, "calmed", 1, 1);
        ends(Setup.STEADY, 1, 1, 400, 1, "calmed", 60, 1);
        // An error of 100 at once.
        taken(Setup.FRESH, "calmed", 1, 100);
        refused(Setup.FRESH, 5, "calmed", 1, 99);
        refused(Setup.FRESH, 5, "calmed", 60, 1);
        refused(Setup.FRESH, 1, "calmed", 61, 1);
        refused(Setup.FRESH, 1, "calmed", 1, 0);
    }

    // ---- what else is changed

    private static void notComingRound() {
        sentence("31: (5: it does not COME ROUND; u is ASKED then, too): nothing else");
        List<String> before = withoutAsked(picture(longLoop()));
        NoiseShaper of = longLoop();
        no("a period of 10,000", of.tone(1, 1), 5);
        same("behind it", withoutAsked(picture(of)), before);
        is("asked", of.asked(0), 1);
        is("asked", of.state(13), 1);
        no("asked", of.asked(1), 5);
    }

    private static NoiseShaper longLoop() {
        x = new NoiseShaper();
        x.loop(0, 1, 5000, 2, 60000, false);
        x.source(0, 777, 0, 1);
        x.clocks(77);
        return x;
    }

    private static List<String> withoutAsked(List<String> lines) {
        lines.removeIf(line -> line.startsWith("asked(") || line.startsWith("state(13)"));
        return lines;
    }

    private static void askingChangesNothing() {
        sentence("what there is, what can be reckoned, on paper: calls that only tell");
        asksOnly("told", 6);
        asksOnly("latest", 6, 24);
        asksOnly("state", 5);
        asksOnly("sum", 4);
        asksOnly("gap", 2, 48);
        asksOnly("range", 0, 2);
        asksOnly("steady", 6, 30000);
        asksOnly("element", 11, 4);
        asksOnly("spread");
        asksOnly("combed", 2);
        asksOnly("wrong", 1);
        asksOnly("work", 2, 1);
        asksOnly("need", 100000);
        asksOnly("response", 3);
        asksOnly("half", 3, 3);
        asksOnly("beat", 2, 47);
        asksOnly("tonal", 2);
        // One that is asked already.
        asksOnly("tone", 11, 5);
        asksOnly("out", 30000, 999);
        asksOnly("asked", 11);
        asksOnly("idle", -30000, 60, 1000, 1);
        for (int y = 0; y <= 12; y++) {
            asksOnly("next", y);
        }
        for (int way = 0; way < 3; way++) {
            asksOnly("ahead", 200, way, 2);
        }
        asksOnly("strain", 200, 1);
        asksOnly("strain", 200, 60000);
        asksOnly("calmed", 60, 400);
    }

    private static void asksOnly(String name, int... arguments) {
        taken(Setup.BUSY, name, arguments);
        NoiseShaper of = make(Setup.BUSY);
        call(of, name, arguments);
        same("behind " + text(name, arguments), picture(of), NOW.get(Setup.BUSY));
        of = make(Setup.BUSY);
        call(of, name, arguments);
        of.clocks(CLOCKS_BEHIND);
        same("later than " + text(name, arguments), picture(of), LATER.get(Setup.BUSY));
    }

    // ---- status()

    private static void statusItself() {
        sentence("2: STATUS of the latest call that has one; status() has none");
        statusIs(0);
        x.anew(7);
        statusIs(2);
        x.clocks(401);
        statusIs(1);
        x.asked(0);
        statusIs(5);
        x.spread();
        statusIs(0);
        x.deviation(16, 0);
        x.told(6);
        statusIs(0);
    }

    private static void statusIs(int want) {
        for (int i = 0; i < 2; i++) {
            int got = x.status();
            if (got != want) {
                fault("status() answered " + got + ", due is " + want);
            }
        }
    }
}
