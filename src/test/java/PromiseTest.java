/** Answers reckoned by hand, promise by promise: ordinary inputs, edges, wrong inputs. */
public final class PromiseTest {
    private static int wrong;
    private static int promise;
    private static NoiseShaper x;

    public static void main(String[] args) {
        firstPromises();
        tellingTheLoop();
        tellingElements();
        tellingFilters();
        goingOn();
        asking();
        askingParts();
        reckoning();
        reckoningTones();
        onPaper();
        System.out.println(wrong == 0 ? "all promises hold" : wrong + " answers are not as due");
        if (wrong != 0) {
            System.exit(1);
        }
    }

    // ---- helpers

    private static void begin(int number) {
        promise = number;
        x = new NoiseShaper();
    }

    private static void is(String call, long got, long want) {
        if (got != want || x.status() != 0) {
            tell(call, got, want, 0);
        }
    }

    private static void no(String call, long got, int status) {
        if (got != NoiseShaper.NONE || x.status() != status) {
            tell(call, got, NoiseShaper.NONE, status);
        }
    }

    private static void tell(String call, long got, long want, int status) {
        wrong++;
        System.out.println("promise " + promise + ": " + call + " answered " + got + " with status " + x.status()
                + ", due is " + want + " with status " + status);
    }

    /** LATEST of a stage, the eldest first, and that there is nothing ahead of it. */
    private static void toldIs(int stage, long... want) {
        is("told of stage " + stage, x.told(stage), want.length);
        for (int i = 0; i < want.length; i++) {
            is("number " + i + " of stage " + stage, x.latest(stage, want.length - 1 - i), want[i]);
        }
        no("a number ahead of the first", x.latest(stage, want.length), 5);
    }

    private static void statesAre(long... want) {
        for (int i = 0; i < want.length; i++) {
            is("state " + i, x.state(i), want[i]);
        }
    }

    /** A loop that always tells y, with 3 elements. */
    private static void threeElementsAlways(int y) {
        x.loop(0, 1, 100, 4, 60000, false);
        x.source(0, 100 * (2 * y - 3), 0, 1);
    }

    // ---- 1 to 4

    private static void firstPromises() {
        begin(1);
        for (int what : new int[] {0, 1, 2, 3, 4, 5, 6, 7, 8, 10, 11, 12, 13}) {
            is("state " + what, x.state(what), 0);
        }
        is("elements", x.state(9), 1);
        for (int stage = 0; stage < 7; stage++) {
            is("told", x.told(stage), 0);
        }
        is("half of those that are told", x.half(3, 0) + x.half(3, 2), 0);
        is("order and ratio of the comb", x.response(0), 1);
        no("order and ratio of the comb", x.response(1), 5);
        x.clocks(2);
        toldIs(0, 0, 0);
        toldIs(1, 0, 1);
        toldIs(3, 0, 1);
        begin(1);
        is("limit", x.strain(3, 60000), 0);
        is("tone of all defaults", x.tone(30000, 0), 3);

        begin(2);
        x.told(9);
        if (x.status() != 2 || x.status() != 2) {
            tell("status twice", x.status(), 2, 2);
        }
        x.clocks(0);
        if (x.status() != 1) {
            tell("status of a wrong number", x.status(), 1, 1);
        }
        x.asked(0);
        if (x.status() != 5) {
            tell("status of what is not there", x.status(), 5, 5);
        }
        x.spread();
        if (x.status() != 0) {
            tell("status that is fine again", x.status(), 0, 0);
        }

        begin(3);
        is("kind 1", x.source(1, 5, -3, 3), 0);
        x.clocks(4);
        toldIs(0, 5, 2, -1, 5);
        is("kind 2", x.source(2, 7, -7, 2), 4);
        toldIs(0);
        toldIs(1);
        x.clocks(5);
        toldIs(0, 7, 7, -7, -7, 7);
        is("kind 1 above its end", x.source(1, 30000, 30000, 1000), 9);
        x.clocks(1);
        toldIs(0, 30000);
        is("kind 1 below its end", x.source(1, -30000, -30000, 1000), 10);
        x.clocks(1);
        toldIs(0, -30000);
        no("kind", x.source(4, 0, 0, 1), 1);
        no("kind", x.source(-1, 0, 0, 1), 1);
        no("a", x.source(0, 30001, 0, 1), 1);
        no("a", x.source(0, -30001, 0, 1), 1);
        no("b", x.source(0, 0, 30001, 1), 1);
        no("b", x.source(0, 0, -30001, 1), 1);
        no("c", x.source(0, 0, 0, 0), 1);
        no("c", x.source(0, 0, 0, 1001), 1);
        toldIs(0, -30000);

        begin(4);
        is("sample", x.sample(0, -1), 0);
        is("sample that was -1", x.sample(0, 8), -1);
        is("last sample", x.sample(15, 9), 0);
        x.source(3, 0, 0, 1);
        x.clocks(15);
        is("sample while it goes on", x.sample(15, -9), 9);
        is("nothing began anew", x.told(0), 15);
        x.clocks(2);
        is("sample 15", x.latest(0, 1), -9);
        is("sample 0 again", x.latest(0, 0), 8);
        no("no such sample", x.sample(16, 0), 1);
        no("no such sample", x.sample(-1, 0), 1);
        // The document tells no bounds of a sample, but that the source's numbers are put to theirs.
        is("a great sample", x.sample(1, 40000), 0);
        is("a small sample", x.sample(2, -40000), 0);
        x.clocks(2);
        is("great, as the source tells it", x.latest(0, 1), 30000);
        is("small, as the source tells it", x.latest(0, 0), -30000);
    }

    // ---- 5 and 6

    private static void tellingTheLoop() {
        begin(5);
        x.source(0, 30, 0, 1);
        is("errors, order 2", x.loop(0, 2, 100, 2, 60000, false), 1);
        x.clocks(4);
        toldIs(1, 1, 0, 1, 0);
        statesAre(100, -20, 0, 0, -100);
        x.loop(0, 3, 100, 2, 60000, false);
        x.clocks(4);
        toldIs(1, 1, 0, 0, 1);
        statesAre(400, 100, -80, 0, 100);
        x.loop(0, 4, 100, 2, 60000, false);
        x.clocks(5);
        toldIs(1, 1, 0, 0, 1, 1);
        statesAre(1100, 350, -50, -150, 100);
        x.loop(1, 2, 100, 2, 60000, false);
        x.clocks(4);
        toldIs(1, 1, 0, 1, 0);
        statesAre(20, 0, 0, 0, -100);

        x.source(0, 150, 0, 1);
        is("cascade, order 2", x.loop(2, 2, 100, 3, 60000, false), 6);
        x.clocks(3);
        toldIs(1, 5, 3, 4);
        statesAre(50, 100, 0, 0, 200);
        is("values together", x.sum(1), 600);
        x.source(0, 50, 0, 1);
        is("cascade, order 3", x.loop(2, 3, 100, 2, 60000, false), 7);
        x.clocks(3);
        toldIs(1, 5, 2, 6);
        statesAre(50, 0, 0, 0, 500);
        is("cascade, order 4", x.loop(2, 4, 100, 2, 60000, false), 15);
        x.clocks(4);
        toldIs(1, 9, 7, 8, 6);
        statesAre(0, 100, 0, 50, -300);
        is("sums of a new loop", x.loop(2, 1, 100, 17, 60000, false), 16);
        is("nothing of the old one", x.sum(0) + x.sum(1) + x.sum(2) + x.sum(3) + x.state(4), 0);

        // Limits: each of two sums is held by itself, what is lost keeps its sign.
        x.source(0, 90, 0, 1);
        x.loop(1, 2, 100, 2, 40, false);
        x.clocks(1);
        statesAre(40, 40);
        is("hits", x.state(7), 1);
        x.clocks(1);
        // s1 = 40 + 90 - 100 = 30, s2 = 40 + 30 - 100 = -30
        statesAre(30, -30);
        x.clocks(1);
        // s1 = 30 + 90 + 100 = 220, held 40; s2 = -30 + 40 + 100 = 110, held 40
        statesAre(40, 40);
        is("hits", x.state(7), 3);
        is("clocks with a hit", x.state(8), 2);
        is("lost", x.sum(3), 50 + 180 + 70);
        x.loop(1, 2, 100, 2, 40, true);
        x.clocks(1);
        statesAre(0, 0, 0, 0, 100);
        is("lost stays", x.sum(3), 50);

        no("kind", x.loop(3, 1, 1, 2, 1, false), 1);
        no("kind", x.loop(-1, 1, 1, 2, 1, false), 1);
        no("order", x.loop(0, 0, 1, 2, 1, false), 1);
        no("order", x.loop(0, 5, 1, 2, 1, false), 1);
        no("step", x.loop(0, 1, 0, 2, 1, false), 1);
        no("step", x.loop(0, 1, 5001, 2, 1, false), 1);
        no("levels", x.loop(0, 1, 1, 1, 1, false), 1);
        no("levels", x.loop(0, 1, 1, 18, 1, false), 1);
        no("levels of a cascade", x.loop(2, 2, 1, 7, 1, false), 1);
        no("levels of a cascade", x.loop(2, 3, 1, 4, 1, false), 1);
        no("limit", x.loop(0, 1, 1, 2, 0, false), 1);
        no("limit", x.loop(0, 1, 1, 2, 60001, false), 1);
        is("nothing changed", x.told(1), 1);
        is("all at their greatest", x.loop(0, 4, 5000, 17, 60000, true), 16);
        is("a cascade of its most levels", x.loop(2, 3, 1, 3, 1, false), 14);

        begin(6);
        x.source(0, -5, 0, 1);
        x.clocks(3);
        is("dither", x.dither(10, 1), 3);
        is("x is the seed", x.state(5), 1);
        toldIs(1);
        is("the source goes on", x.told(0), 3);
        x.clocks(1);
        // x = 1103527590; 16838 of 21 the rest is 17, less 10: 7, so that it tells of 2.
        is("x", x.state(5), 1103527590);
        toldIs(1, 1);
        statesAre(-105);
        x.loop(1, 1, 100, 2, 60000, false);
        is("x began anew with the loop", x.state(5), 1);
        x.clocks(1);
        toldIs(1, 1);
        statesAre(-5);
        x.loop(2, 2, 100, 2, 60000, false);
        x.clocks(1);
        // The second tells of -105 without a dither.
        toldIs(1, 2);
        statesAre(-105, -5);
        is("the greatest seed", x.dither(0, 2147483647), 6);
        x.clocks(2);
        is("not drawn without", x.state(5), 2147483647);
        is("the greatest dither", x.dither(5000, 2147483647), 8);
        x.clocks(1);
        // (2147483647 * 1103515245 + 12345) of 2147483648 the rest
        is("x of the greatest seed", x.state(5), (int) (((1L << 31) - 1103515245L + 12345L) & 0x7FFFFFFF));
        no("below 0", x.dither(-1, 0), 1);
        no("too great", x.dither(5001, 0), 1);
        no("seed below 0", x.dither(0, -1), 1);
        is("nothing changed", x.told(1), 1);
    }

    // ---- 7 and 8

    private static void tellingElements() {
        begin(7);
        threeElementsAlways(2);
        is("rotated", x.way(1), 0);
        x.clocks(1);
        is("pointer", x.state(6), 2);
        is("round the end", x.next(2), 0b101);
        x.clocks(1);
        is("pointer", x.state(6), 1);
        x.clocks(1);
        is("pointer", x.state(6), 0);
        is("even", x.spread(), 0);
        is("twice", x.way(2), 1);
        is("the loop goes on", x.told(1), 3);
        toldIs(2);
        x.clocks(3);
        for (int i = 0; i < 3; i++) {
            is("debt", x.element(i, 2), 0);
            is("sum of debts", x.element(i, 3), new int[] {-3, 0, 3}[i]);
        }
        is("the greatest two", x.next(2), 0b110);
        is("way", x.state(10), 2);
        no("way", x.way(3), 1);
        no("way", x.way(-1), 1);
        is("nothing changed", x.told(2), 3);
        is("fixed", x.way(0), 2);
        x.clocks(2);
        is("fixed", x.next(2), 0b011);
        is("uneven", x.spread(), 2);

        begin(8);
        threeElementsAlways(2);
        x.clocks(1);
        is("deviation", x.deviation(0, -1), 0);
        toldIs(2);
        is("the loop goes on", x.told(1), 1);
        is("deviation that was -1", x.deviation(0, 99), -1);
        is("least", x.deviation(1, -99), 0);
        is("an element that is not there", x.deviation(15, 5), 0);
        is("it was kept", x.deviation(15, 6), 5);
        x.deviation(2, 50);
        x.way(1);
        x.clocks(3);
        toldIs(2, 1099 + 901, 1050 + 1099, 901 + 1050);
        no("too great", x.deviation(0, 100), 1);
        no("too small", x.deviation(0, -100), 1);
        no("no element", x.deviation(16, 0), 2);
        no("no element", x.deviation(-1, 0), 2);
        no("a wrong number ahead of no element", x.deviation(16, 100), 1);
        is("nothing changed", x.told(2), 3);
    }

    // ---- 9 to 11

    private static void tellingFilters() {
        begin(9);
        x.source(0, 100, 0, 1);
        x.clocks(1);
        is("least width", x.comb(1, 16, 8, 1), 15);
        toldIs(3);
        is("elements go on", x.told(2), 1);
        x.clocks(33);
        // 16 times 1,000, of which the lowest 8 bits are -128.
        toldIs(3, -128, -128);
        is("not true", x.wrong(0), 2);
        is("so far", x.wrong(1), 16128);
        is("its sum", x.combed(0), -24);
        x.loop(0, 1, 1, 17, 60000, false);
        is("16 elements", x.comb(5, 16, 32, 0), 26);
        is("none, and all is well", x.comb(5, 16, 32, 1), -1);
        is("127 is less than 128", x.comb(1, 1, 8, 0), 8);
        no("order", x.comb(0, 1, 8, 0), 1);
        no("order", x.comb(6, 1, 8, 0), 1);
        no("ratio", x.comb(1, 0, 8, 0), 1);
        no("ratio", x.comb(1, 17, 8, 0), 1);
        no("width", x.comb(1, 1, 7, 0), 1);
        no("width", x.comb(1, 1, 33, 0), 1);
        no("in", x.comb(1, 1, 8, 2), 1);
        no("in", x.comb(1, 1, 8, -1), 1);

        begin(10);
        x.source(0, 100, 0, 1);
        x.folds(1, 3, 0, 0);
        x.clocks(2);
        is("taps", x.taps(0, 0, 0, -1, 1), -1);
        toldIs(4);
        is("the comb goes on", x.told(3), 2);
        x.clocks(4);
        // The midst is the fourth number: none yet, then 1: a half of -1, downwards.
        toldIs(4, 0, -1);
        is("all seven", x.taps(999, -999, 998, -998, 12), 2 * 998 - 998);
        for (int i = 0; i < 4; i++) {
            no("tap", x.taps(i == 0 ? 1000 : 0, i == 1 ? 1000 : 0, i == 2 ? 1000 : 0, i == 3 ? 1000 : 0, 0), 1);
            no("tap", x.taps(i == 0 ? -1000 : 0, i == 1 ? -1000 : 0, i == 2 ? -1000 : 0, i == 3 ? -1000 : 0, 0), 1);
        }
        no("shift", x.taps(0, 0, 0, 0, 13), 1);
        no("shift", x.taps(0, 0, 0, 0, -1), 1);
        is("nothing changed", x.half(3, 2), 12);
        // The lowest 32 bits of what is told.
        x.comb(5, 16, 32, 1);
        x.taps(999, 999, 999, 999, 0);
        x.clocks(400);
        is("lowest 32 bits", x.latest(4, 0), (int) (7L * 999 * 1000 * 1048576));

        begin(11);
        x.source(0, 100, 0, 1);
        is("none", x.folds(0, 3, 2, 1), 1);
        is("one", x.folds(1, 1, 3, 3), 2);
        x.clocks(8);
        // All numbers that come are 1: sums of the latest taps, by 32.
        toldIs(4, -1, 24 / 32, 32 / 32, 1);
        toldIs(5);
        is("two", x.folds(2, 0, 0, 0), 4);
        is("three", x.folds(3, 0, 0, 0), 8);
        x.clocks(16);
        toldIs(4, 0, 1, 1, 1, 1, 1, 1, 1);
        toldIs(5, 0, 1, 1, 1);
        toldIs(6, 0, 1);
        is("how many", x.state(12), 3);
        no("many", x.folds(4, 0, 0, 0), 1);
        no("many", x.folds(-1, 0, 0, 0), 1);
        no("taps", x.folds(0, 4, 0, 0), 1);
        no("taps", x.folds(0, 0, 4, 0), 1);
        no("taps", x.folds(0, 0, 0, 4), 1);
        no("taps", x.folds(0, -1, 0, 0), 1);
        no("taps", x.folds(0, 0, -1, 0), 1);
        no("taps", x.folds(0, 0, 0, -1), 1);
        is("nothing changed", x.told(6), 2);
        x.comb(1, 16, 32, 1);
        x.folds(1, 2, 0, 0);
        x.clocks(16 * 12);
        // 16,000 each: (3 - 25 + 150 ..) / 512 of it at the second, fourth .. number.
        toldIs(4, 3 * 16000 / 512, Math.floorDiv(-22 * 16000, 512), 384 * 16000 / 512,
                Math.floorDiv(534 * 16000, 512), Math.floorDiv(509 * 16000, 512), 16000);
    }

    // ---- 12 and 13

    private static void goingOn() {
        begin(12);
        x.source(0, 50, 0, 1);
        x.folds(3, 0, 0, 0);
        for (int stage = 6; stage >= 0; stage--) {
            x.clocks(16);
            int clock = x.state(11);
            is("anew", x.anew(stage), clock);
            for (int i = 0; i < 7; i++) {
                boolean stays = i < stage;
                is("told behind anew " + stage, Math.min(1, x.told(i)), stays ? 1 : 0);
            }
        }
        is("clocks go on", x.state(11), 112);
        is("nothing lost or hit, no sums", x.sum(0) + x.sum(1) + x.sum(2) + x.sum(5) + x.state(0), 0);
        no("no stage", x.anew(7), 2);
        no("no stage", x.anew(-1), 2);
        // A fold that begins anew waits for two numbers again.
        x.folds(2, 0, 0, 0);
        x.clocks(3);
        x.anew(5);
        is("the first fold goes on", x.told(4), 1);
        x.clocks(1);
        is("the first fold goes on", x.told(4), 2);
        x.clocks(1);
        x.anew(4);
        x.clocks(1);
        is("and waits", x.told(4), 0);
        x.comb(1, 3, 32, 0);
        x.clocks(2);
        x.anew(3);
        x.clocks(2);
        is("the comb waits", x.told(3), 0);
        x.clocks(1);
        is("the comb tells", x.told(3), 1);

        begin(13);
        is("one", x.clocks(1), 1);
        is("the most", x.clocks(400), 401);
        no("none", x.clocks(0), 1);
        no("too many", x.clocks(401), 1);
        no("below 0", x.clocks(-1), 1);
        is("nothing changed", x.told(0), 401);
        x.source(0, 50, 0, 1);
        x.anew(0);
        x.clocks(3);
        toldIs(0, 50, 50, 50);
        toldIs(1, 1, 0, 1);
        toldIs(2, 1000, 0, 1000);
        toldIs(3, 1, 0, 1);
    }

    // ---- 14 to 20

    private static void asking() {
        begin(14);
        x.comb(1, 3, 32, 0);
        x.folds(1, 0, 0, 0);
        x.clocks(13);
        is("source", x.told(0), 13);
        is("loop", x.told(1), 13);
        is("elements", x.told(2), 13);
        is("comb", x.told(3), 4);
        is("fold", x.told(4), 2);
        is("silent fold", x.told(6), 0);
        no("no stage", x.told(7), 2);
        no("no stage", x.told(-1), 2);

        begin(15);
        x.source(1, 0, 1, 1000);
        x.clocks(60);
        is("the latest", x.latest(0, 0), 59);
        is("the eldest", x.latest(0, 47), 12);
        no("no more of them", x.latest(0, 48), 5);
        no("below 0", x.latest(0, -1), 1);
        no("no stage", x.latest(7, 0), 2);
        no("below 0 ahead of no stage", x.latest(7, -1), 1);
        no("a silent fold", x.latest(5, 0), 5);
        x.source(0, -1, 0, 1);
        x.clocks(1);
        is("that is -1", x.latest(0, 0), -1);

        begin(16);
        x.source(0, 30, 0, 1);
        x.loop(0, 2, 100, 2, 60000, false);
        is("value: none", x.state(4), 0);
        x.clocks(3);
        statesAre(-20, -10, 0, 0, 100);
        is("clock", x.state(11), 3);
        is("asked", x.state(13), 0);
        x.tone(5, 0);
        is("asked", x.state(13), 1);
        no("below", x.state(-1), 1);
        no("above", x.state(14), 1);
        x.source(0, -1, 0, 1);
        x.loop(1, 1, 100, 2, 60000, false);
        x.clocks(1);
        statesAre(-1);

        begin(17);
        x.source(0, 30, 0, 1);
        x.loop(0, 2, 100, 2, 75, false);
        x.deviation(0, 10);
        x.clocks(3);
        is("sources", x.sum(0), 90);
        is("values", x.sum(1), 100);
        is("outs", x.sum(2), 2);
        is("analog", x.sum(5), 2020);
        x.clocks(1);
        is("lost", x.sum(3), 25);
        x.anew(2);
        is("analog since elements began", x.sum(5), 0);
        is("outs since the loop began", x.sum(2), 2);
        no("below", x.sum(-1), 1);
        no("above", x.sum(6), 1);
        threeElementsAlways(2);
        x.deviation(2, -40);
        x.clocks(2);
        // 3 * 2010 less 2 * 2970, two times
        is("drift", x.sum(4), 180);

        begin(18);
        x.source(0, 30, 0, 1);
        x.clocks(5);
        x.loop(0, 2, 100, 2, 60000, false);
        no("not so many", x.gap(2, 1), 5);
        x.clocks(4);
        is("gap", x.gap(0, -7), -120);
        is("greatest gap", x.gap(1, 99), 120);
        is("of one", x.gap(2, 1), 130);
        is("of two", x.gap(2, 2), 60);
        is("of three", x.gap(2, 3), 190);
        is("of four", x.gap(2, 4), 120);
        no("of five", x.gap(2, 5), 5);
        no("of none", x.gap(2, 0), 1);
        no("of too many", x.gap(2, 49), 1);
        no("what", x.gap(3, 1), 1);
        no("what", x.gap(-1, 1), 1);
        x.clocks(60);
        is("of 48", Math.min(0, x.gap(2, 48)), 0);
        x.source(0, 150, 0, 1);
        x.loop(2, 2, 100, 3, 60000, false);
        x.clocks(2);
        is("values of a cascade", x.gap(2, 1), 250);
        is("greatest, not the latest", x.gap(1, 0), 250);
        is("latest", x.gap(0, 0), 100);

        begin(19);
        x.source(1, -3, 2, 4);
        no("none", x.range(0, 0), 5);
        x.clocks(3);
        is("least", x.range(0, 0), -3);
        is("greatest", x.range(0, 1), 1);
        is("together", x.range(0, 2), -3);
        x.source(1, 0, 1, 1000);
        x.clocks(60);
        is("least of 48", x.range(0, 0), 15);
        is("greatest of 48", x.range(0, 1), 62);
        is("48 together", x.range(0, 2), 24 * (15 + 62));
        no("what", x.range(0, 3), 1);
        no("what", x.range(0, -1), 1);
        no("no stage", x.range(7, 0), 2);
        no("no stage", x.range(-1, 0), 2);
        no("a silent fold", x.range(4, 0), 5);

        begin(20);
        no("none", x.steady(0, 0), 5);
        x.source(1, 0, 3, 4);
        x.clocks(8);
        is("the latest alone", x.steady(0, 2), 1);
        is("two", x.steady(0, 3), 2);
        is("three", x.steady(0, 8), 3);
        is("all", x.steady(0, 9), 8);
        is("the greatest distance", x.steady(2, 30000), 8);
        no("too far", x.steady(0, 30001), 1);
        no("below 0", x.steady(0, -1), 1);
        no("no stage", x.steady(7, 0), 2);
        no("no stage", x.steady(-1, 0), 2);
        x.clocks(100);
        is("not more than 48", x.steady(0, 9), 48);
    }

    // ---- 21 to 25

    private static void askingParts() {
        begin(21);
        threeElementsAlways(1);
        x.deviation(1, -99);
        is("weight", x.element(1, 0), 901);
        is("on: none yet", x.element(0, 4), 0);
        x.way(1);
        x.clocks(4);
        is("used", x.element(0, 1), 2);
        is("used", x.element(1, 1), 1);
        is("on", x.element(0, 4), 1);
        is("not on", x.element(1, 4), 0);
        x.way(2);
        x.clocks(1);
        is("debt", x.element(0, 2), -2);
        is("debt", x.element(1, 2), 1);
        is("sum of debts", x.element(2, 3), 1);
        x.clocks(1);
        // Debts -1, -1, 2: the second was taken.
        is("debt that is -1", x.element(0, 2), -1);
        is("sum of debts", x.element(0, 3), -3);
        is("sum of debts", x.element(2, 3), 3);
        no("what", x.element(0, 5), 1);
        no("what", x.element(0, -1), 1);
        no("no element", x.element(3, 0), 2);
        no("no element", x.element(-1, 0), 2);
        // About 4 of 15, then 15 of 15, for long: sums of debts that run up to their limits.
        x.loop(0, 1, 154, 16, 60000, false);
        x.source(2, -1087, 2335, 747);
        for (int i = 0; i < 60; i++) {
            x.clocks(400);
        }
        long greatest = 0;
        long least = 0;
        for (int i = 0; i < 15; i++) {
            greatest = Math.max(greatest, x.element(i, 3));
            least = Math.min(least, x.element(i, 3));
        }
        is("the greatest sum of debts", greatest, 1000000);
        is("the least sum of debts", least, -1000000);
        x.anew(2);
        is("debts anew", x.element(0, 2) + x.element(2, 3) + x.element(0, 1) + x.element(2, 4), 0);

        begin(22);
        is("none yet", x.spread(), 0);
        threeElementsAlways(1);
        x.clocks(7);
        is("fixed", x.spread(), 7);
        x.way(1);
        x.clocks(7);
        is("rotated", x.spread(), 1);

        begin(23);
        x.source(0, 100, 0, 1);
        x.comb(3, 4, 8, 0);
        x.clocks(9);
        is("first", x.combed(0), 9);
        is("second", x.combed(1), 45);
        is("third, 165 in 8 bits", x.combed(2), 165 - 256);
        no("behind order", x.combed(3), 5);
        no("behind order", x.combed(4), 5);
        no("above", x.combed(5), 1);
        no("below", x.combed(-1), 1);

        begin(24);
        x.source(0, 100, 0, 1);
        x.comb(1, 1, 8, 1);
        no("none", x.wrong(1), 5);
        is("none wrong", x.wrong(0), 0);
        x.clocks(3);
        // 1,000 in 8 bits is -24.
        is("wrong", x.wrong(0), 3);
        is("by how much", x.wrong(1), 1024);
        x.comb(1, 1, 11, 1);
        x.clocks(3);
        is("wide enough", x.wrong(0), 0);
        is("by nothing", x.wrong(1), 0);
        x.comb(5, 16, 32, 0);
        for (int i = 0; i < 40; i++) {
            x.clocks(400);
        }
        is("exact, however far the sums ran", x.wrong(0), 0);
        is("what it tells", x.latest(3, 0), 1048576);
        no("what", x.wrong(2), 1);
        no("what", x.wrong(-1), 1);

        begin(25);
        x.taps(1, 0, 0, 0, 0);
        x.folds(3, 2, 1, 3);
        x.clocks(16);
        is("plain of the first", x.work(0, 0), 8 * 7);
        is("folded of the first", x.work(0, 1), 8 * 4);
        is("plain of the second", x.work(1, 0), 4 * 5);
        is("folded of the second", x.work(1, 1), 4 * 3);
        is("plain of the third", x.work(2, 0), 2 * 2);
        is("folded of the third: its midst is 0", x.work(2, 1), 2);
        no("what", x.work(0, 2), 1);
        no("what", x.work(0, -1), 1);
        no("no such fold", x.work(3, 0), 2);
        no("no such fold", x.work(-1, 0), 2);
        x.folds(1, 0, 0, 0);
        is("since it began", x.work(0, 0), 0);
        no("not told", x.work(1, 0), 2);
        no("a wrong number ahead of that", x.work(1, 2), 1);
    }

    // ---- 26 to 30

    private static void reckoning() {
        begin(26);
        is("nothing comes in", x.need(0), 8);
        is("127", x.need(127), 8);
        is("128", x.need(128), 9);
        x.comb(5, 16, 8, 0);
        is("2047 times 2 to the power of 20", x.need(2047), 32);
        no("2048 of these", x.need(2048), 5);
        no("below 0", x.need(-1), 1);
        no("too many", x.need(100001), 1);
        no("the most", x.need(100000), 5);

        begin(27);
        x.comb(3, 3, 8, 0);
        long[] want = {1, 3, 6, 7, 6, 3, 1};
        for (int i = 0; i < want.length; i++) {
            is("response " + i, x.response(i), want[i]);
        }
        no("behind its end", x.response(7), 5);
        no("below 0", x.response(-1), 1);
        no("far behind its end", x.response(2147483647), 5);
        x.comb(5, 16, 8, 0);
        is("first", x.response(0), 1);
        is("second", x.response(1), 5);
        is("last", x.response(75), 1);
        no("behind the longest", x.response(76), 5);
        x.comb(5, 1, 8, 0);
        is("ratio 1", x.response(0), 1);
        no("ratio 1", x.response(1), 5);

        begin(28);
        x.taps(5, 0, -3, 7, 4);
        long[][] halves = {{4, 1, 2, 3}, {32, 1, 5, 5}, {512, 1, 9, 7}, {11, 1, 4, 5}};
        for (int taps = 0; taps < 4; taps++) {
            for (int what = 0; what < 4; what++) {
                is("half " + taps + " " + what, x.half(taps, what), halves[taps][what]);
            }
        }
        x.taps(0, 1, 0, 7, 4);
        is("not half", x.half(3, 1), 0);
        no("taps", x.half(4, 0), 1);
        no("taps", x.half(-1, 0), 1);
        no("what", x.half(0, 4), 1);
        no("what", x.half(0, -1), 1);

        begin(29);
        x.source(2, 3, 1, 1);
        no("none", x.beat(0, 0), 5);
        x.clocks(4);
        is("lag 0", x.beat(0, 0), 64);
        is("lag 1", x.beat(0, 1), -48);
        is("lag 2", x.beat(0, 2), 32);
        is("lag 3", x.beat(0, 3), -16);
        no("lag 4", x.beat(0, 4), 5);
        // Outs 1, 0, 1, 0 as 3 and -97, 4, -95 are told of
        is("the loop", x.beat(1, 2), 8);
        is("elements", x.beat(2, 2), 8000000);
        no("lag below 0", x.beat(0, -1), 1);
        no("lag too great", x.beat(0, 48), 1);
        no("no such stage", x.beat(3, 0), 2);
        no("no such stage", x.beat(-1, 0), 2);
        x.clocks(100);
        is("of 48 alone", x.beat(0, 47), -48 * 48);

        begin(30);
        x.source(1, 0, 1, 5);
        x.clocks(24);
        no("not more than 24", x.tonal(0), 5);
        x.clocks(1);
        is("tonal", x.tonal(0), 5);
        x.source(0, 100, 0, 1);
        x.clocks(30);
        is("all alike: the least lag", x.tonal(0), 2);
        is("of the loop", x.tonal(1), 2);
        is("of elements", x.tonal(2), 2);
        no("no such stage", x.tonal(3), 2);
        no("no such stage", x.tonal(-1), 2);
        // One out of 24 is 1: of all lags two of these stand by 24 alone.
        x.loop(0, 1, 120, 2, 60000, false);
        x.source(0, -110, 0, 1);
        x.clocks(48);
        is("the greatest lag", x.tonal(1), 24);
    }

    // ---- 31 to 34

    private static void reckoningTones() {
        begin(31);
        x.dither(5000, 3);
        x.source(0, 77, 0, 1);
        x.clocks(5);
        long[] want = {0, 4, 3, 2, 2, 3};
        for (int what = 0; what < 6; what++) {
            is("tone of 50, what " + what, x.tone(50, what), want[what]);
        }
        is("one alone: lead", x.tone(-100, 0), 0);
        is("one alone: sum", x.tone(-100, 2), 0);
        is("one alone: unlike", x.tone(-100, 3), 1);
        is("one alone: changes", x.tone(-100, 4), 0);
        is("one alone: run", x.tone(-100, 5), 1);
        no("too great", x.tone(30001, 0), 1);
        no("too small", x.tone(-30001, 0), 1);
        no("what", x.tone(7, 6), 1);
        no("what", x.tone(7, -1), 1);
        is("wrong ones are not asked", x.state(13), 2);
        is("nothing else changed", x.told(1), 5);
        x.loop(0, 1, 5000, 2, 60000, false);
        is("the longest that comes round", x.tone(10, 1), 1000);
        is("its outs together", x.tone(10, 2), 501);
        no("period 10,000", x.tone(1, 0), 5);
        is("asked, too", x.asked(1), 1);
        x.loop(1, 1, 5000, 2, 60000, false);
        no("a lead of 1 and a period of 1,000", x.tone(10, 1), 5);
        x.loop(0, 1, 100, 2, 30, false);
        is("held: lead", x.tone(50, 0), 1);
        is("held: period", x.tone(50, 1), 1);
        is("held: out", x.tone(50, 2), 1);
        x.loop(0, 1, 100, 2, 30, true);
        is("calm: lead", x.tone(50, 0), 0);
        // With an error of 0 behind each clock, what the second told last is a state all the same.
        x.loop(2, 2, 100, 2, 1, true);
        is("cascade: lead", x.tone(50, 0), 0);
        is("cascade: period", x.tone(50, 1), 1);
        x.loop(2, 2, 100, 2, 60, true);
        // w 50, error -50; the second: -50, error 50, tells 0. Then w 0, error 100, held: 60; the
        // second: 110, tells 1, and calm. Errors of 0 as at first, but the second had told 0 then.
        is("cascade: lead", x.tone(50, 0), 1);
        is("cascade: period", x.tone(50, 1), 2);
        is("cascade: outs", x.tone(50, 2), 3);

        begin(32);
        is("first", x.out(50, 0), 1);
        is("second", x.out(50, 1), 0);
        is("last", x.out(50, 999), 1);
        is("not asked", x.state(13), 0);
        no("behind the end", x.out(50, 1000), 1);
        no("below 0", x.out(50, -1), 1);
        no("too great", x.out(30001, 0), 1);
        no("too small", x.out(-30001, 0), 1);
        x.loop(0, 1, 5000, 2, 60000, false);
        is("one that does not come round", x.out(1, 0) + x.out(1, 1), 1);

        begin(33);
        no("none", x.asked(0), 5);
        for (int u = -1; u < 11; u++) {
            x.tone(u, 0);
        }
        is("that is -1", x.asked(0), -1);
        is("twelve", x.asked(11), 10);
        x.tone(-1, 1);
        is("asked again it stays", x.asked(0), -1);
        x.tone(99, 1);
        is("the eldest went", x.asked(0), 0);
        is("the newest", x.asked(11), 99);
        x.tone(-1, 1);
        for (int i = 0; i < 10; i++) {
            is("those between", x.asked(i), i + 1);
        }
        is("the one ahead of it", x.asked(10), 99);
        is("asked anew", x.asked(11), -1);
        is("twelve", x.state(13), 12);
        no("no more", x.asked(12), 5);
        no("below 0", x.asked(-1), 1);
        x.out(1, 1);
        x.idle(20, 3, 1000, 0);
        is("not by others", x.asked(11), -1);
        x.dither(0, 0);
        x.anew(0);
        is("anew is not told anew", x.state(13), 12);
        x.loop(9, 1, 100, 2, 60000, false);
        is("a wrong loop is not told", x.state(13), 12);
        x.loop(0, 1, 100, 2, 60000, false);
        is("told anew", x.state(13), 0);

        begin(34);
        is("how many", x.idle(0, 60, 5, 0), 3);
        is("the worst", x.idle(0, 60, 5, 1), 0);
        is("the worst of others", x.idle(1, 59, 5, 1), 50);
        is("of several the least", x.idle(15, 30, 10, 1), 20);
        is("of several the least", x.idle(11, 9, 200, 1), 12);
        is("that is -1", x.idle(-1, 1, 200, 1), -1);
        no("not up to 199", x.idle(-1, 1, 199, 1), 5);
        is("none of them", x.idle(-1, 1, 199, 0), 0);
        is("up to the end", x.idle(29941, 60, 1000, 0), 60);
        no("behind the end", x.idle(29942, 60, 1000, 0), 1);
        no("too small", x.idle(-30001, 2, 1000, 0), 1);
        no("many", x.idle(0, 0, 1000, 0), 1);
        no("many", x.idle(0, 61, 1000, 0), 1);
        no("most", x.idle(0, 1, 0, 0), 1);
        no("most", x.idle(0, 1, 1001, 0), 1);
        no("what", x.idle(0, 1, 1, 2), 1);
        no("what", x.idle(0, 1, 1, -1), 1);
        no("all wrong", x.idle(2147483647, 2147483647, 0, 2), 1);
        x.loop(0, 1, 5000, 2, 60000, false);
        // Periods 10,000 / gcd(5,000 + u, 10,000): of 8, 10 and 20 up to 1,000.
        is("some do not come round", x.idle(1, 20, 1000, 0), 3);
        is("the longest period", x.idle(9, 2, 1000, 1), 10);
        is("the shorter one", x.idle(10, 11, 1000, 1), 20);
    }

    // ---- 35 to 38

    private static void onPaper() {
        begin(35);
        threeElementsAlways(2);
        is("none", x.next(0), 0);
        is("all", x.next(3), 7);
        no("too many", x.next(4), 1);
        no("below 0", x.next(-1), 1);
        x.way(1);
        x.clocks(1);
        is("rotated", x.next(1), 0b100);
        is("rotated", x.next(2), 0b101);
        is("all", x.next(3), 7);
        is("the pointer stays", x.state(6), 2);
        x.way(2);
        x.clocks(1);
        is("twice", x.next(1), 0b100);
        is("of equal ones the least", x.next(2), 0b101);
        is("debts stay", x.element(2, 2), 2);

        begin(36);
        threeElementsAlways(2);
        x.deviation(2, -40);
        x.clocks(5);
        // Fixed: 3 * 2000 less 2 * 2960 each; rotated: 80, then -40, then -40.
        is("fixed: spread", x.ahead(4, 0, 0), 4);
        is("fixed: drift", x.ahead(4, 0, 1), 320);
        is("fixed: greatest", x.ahead(4, 0, 2), 320);
        is("rotated: spread", x.ahead(3, 1, 0), 0);
        is("rotated: drift", x.ahead(3, 1, 1), 0);
        is("rotated: greatest", x.ahead(3, 1, 2), 80);
        // Twice: elements 0 1, then 0 2, then 1 2.
        is("twice: spread", x.ahead(3, 2, 0), 0);
        is("twice: drift", x.ahead(2, 2, 1), 40);
        x.deviation(2, 0);
        x.deviation(0, -1);
        is("a drift of -1", x.ahead(1, 0, 1), -1 * 3 * 1 + 2);
        is("the most", x.ahead(200, 0, 0), 200);
        no("many", x.ahead(0, 0, 0), 1);
        no("many", x.ahead(201, 0, 0), 1);
        no("way", x.ahead(1, 3, 0), 1);
        no("way", x.ahead(1, -1, 0), 1);
        no("what", x.ahead(1, 0, 3), 1);
        no("what", x.ahead(1, 0, -1), 1);
        is("way as it was", x.state(10), 0);
        is("clock as it was", x.state(11), 5);

        begin(37);
        x.loop(0, 1, 100, 2, 30, false);
        x.source(2, 50, 0, 1);
        is("at its limit", x.strain(1, 50), 0);
        is("one", x.strain(1, 49), 1);
        // Limit 50: error -50, then w -50, error 50, then w 100, error 0, then w 0, error 100.
        is("the fourth hits", x.strain(4, 50), 1);
        is("none hits", x.strain(4, 100), 0);
        is("nothing changed", x.state(11) + x.state(7) + x.state(0), 0);
        x.clocks(1);
        // The error was held by the limit that is told: -30; then w -30, error 70.
        is("from where it is", x.strain(1, 70), 0);
        is("from where it is", x.strain(1, 69), 1);
        is("hits ahead do not count", x.strain(1, 60000), 0);
        no("many", x.strain(0, 1), 1);
        no("many", x.strain(201, 1), 1);
        no("limit", x.strain(1, 0), 1);
        no("limit", x.strain(1, 60001), 1);
        is("the most", x.strain(200, 60000), 0);

        begin(38);
        x.source(2, 50, 0, 1);
        is("one", x.calmed(1, 400), 50);
        is("three", x.calmed(3, 400), 50);
        is("four", x.calmed(4, 400), 100);
        is("just so", x.calmed(4, 100), 100);
        no("not up to 99", x.calmed(4, 99), 5);
        x.source(0, 100, 0, 1);
        is("an error of 0", x.calmed(60, 400), 1);
        no("many", x.calmed(0, 1), 1);
        no("many", x.calmed(61, 1), 1);
        no("most", x.calmed(1, 0), 1);
        no("most", x.calmed(1, 401), 1);
        is("limit as it was", x.strain(1, 60000), 0);
        is("clock as it was", x.state(11), 0);
    }
}
