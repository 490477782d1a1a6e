import java.util.List;

/** The sentences of promises 1 to 38 that name a boundary, each by itself: what is answered at it. */
public final class PromiseEdgeTest extends EdgeCheck {
    private static final int LEAST = Integer.MIN_VALUE;
    private static final int MOST = Integer.MAX_VALUE;

    public static void main(String[] args) {
        newObject();
        tellingSourceAndLoop();
        tellingElements();
        tellingComb();
        tellingFolds();
        goingOn();
        latestAndState();
        sumAndGap();
        rangeAndSteady();
        elementAndSpread();
        combedWrongWork();
        need();
        response();
        half();
        beatAndTonal();
        tone();
        outAndAsked();
        idle();
        next();
        ahead();
        strain();
        calmed();
        end();
    }

    /** An object with something of everything; its clock is 200. */
    private static NoiseShaper busy(int kind) {
        x = new NoiseShaper();
        for (int i = 0; i < 16; i++) {
            x.sample(i, i * 29 - 210);
            x.deviation(i, 7 * i - 50);
        }
        x.source(3, 0, 0, 1);
        x.loop(kind, 2, 60, 6, 55, true);
        x.dither(20, 12345);
        x.way(1);
        x.comb(3, 2, 12, 1);
        x.folds(3, 2, 1, 0);
        x.clocks(200);
        return x;
    }

    /** The same, with a source that does not go by samples. */
    private static NoiseShaper steadySource() {
        busy(0);
        x.source(0, 40, 0, 1);
        x.clocks(60);
        return x;
    }

    // ---- 1

    private static void newObject() {
        sentence("1: CLOCK 0; all as at first; no FOLDS; ELEMENTS FIXED; STATUS 0");
        int status = x.status();
        is("status", status, 0);
        is("clock", x.state(11), 0);
        is("folds", x.state(12), 0);
        is("way", x.state(10), 0);
        is("M", x.state(9), 1);
        is("value that was told last: none", x.state(4), 0);
        is("x", x.state(5), 0);
        for (int stage = 0; stage < 7; stage++) {
            is("told", x.told(stage), 0);
            no("latest", x.latest(stage, 0), 5);
        }
        x.clocks(400);
        for (int stage = 4; stage < 7; stage++) {
            is("told by no fold", x.told(stage), 0);
        }
        is("no dither", x.state(5), 0);
        same("another one", picture(new NoiseShaper()), picture(new NoiseShaper()));
    }

    // ---- 3 to 6

    private static void tellingSourceAndLoop() {
        sentence("3: The SOURCE, which BEGINS ANEW: CLOCK");
        is("at first", x.source(0, 0, 0, 1), 0);
        x.clocks(400);
        is("behind 400", x.source(3, 30000, -30000, 1000), 400);
        toldIs(0);
        toldIs(1);

        sentence("4: what it was (nothing BEGINS ANEW); STATUS tells NONE from -1");
        List<String> before = picture(steadySource());
        steadySource();
        is("a sample", x.sample(0, -1), -210);
        is("that was -1", x.sample(0, -1), -1);
        is("the last one", x.sample(15, MOST), 15 * 29 - 210);
        same("nothing began anew", picture(x), before);

        sentence("5: The LOOP (KIND 0 to 2), which BEGINS ANEW: M");
        x.clocks(9);
        is("the least", x.loop(0, 1, 1, 2, 1, false), 1);
        toldIs(1);
        is("the source goes on", x.told(0), 9);
        is("the greatest", x.loop(1, 4, 5000, 17, 60000, true), 16);
        is("of a cascade", x.loop(2, 1, 5000, 17, 60000, true), 16);
        is("of a cascade", x.loop(2, 4, 1, 2, 1, true), 15);

        sentence("6: D (0 to 5,000), SEED; the LOOP BEGINS ANEW: CLOCK");
        is("at first", x.dither(0, 0), 0);
        x.clocks(7);
        is("behind 7", x.dither(5000, MOST), 7);
        toldIs(1);
        is("the source goes on", x.told(0), 7);
        is("x", x.state(5), MOST);
        x.clocks(1);
        is("without again", x.dither(0, MOST), 8);
        x.clocks(1);
        is("x", x.state(5), MOST);
    }

    // ---- 7 and 8

    private static void tellingElements() {
        sentence("7: WAY; ELEMENTS BEGIN ANEW: what it was");
        x.clocks(3);
        is("the same one", x.way(0), 0);
        toldIs(2);
        is("the loop goes on", x.told(1), 3);
        is("to the last", x.way(2), 0);
        is("from the last", x.way(0), 2);

        sentence("8: DEVIATION of an ELEMENT (0 to 15, also such as there is not now); ELEMENTS BEGIN ANEW");
        x.clocks(3);
        is("one that is not", x.deviation(15, -99), 0);
        toldIs(2);
        is("the loop goes on", x.told(1), 3);
        no("it is not, still", x.element(15, 0), 2);
        x.loop(0, 1, 100, 17, 60000, false);
        is("now it is", x.element(15, 0), 901);
        is("what it was", x.deviation(15, -1), -99);
        is("that was -1", x.deviation(15, 99), -1);
        is("weight", x.element(15, 0), 1099);
    }

    // ---- 9

    private static void tellingComb() {
        sentence("9: the least WIDTH by which it would always be TRUE: IN 0 M, IN 1 all WEIGHTS together");
        x.clocks(5);
        is("one element", x.comb(1, 1, 8, 0), 8);
        toldIs(3);
        is("elements go on", x.told(2), 5);
        // 16 to the power of 5 is 2 to the power of 20.
        int[] levels = {2, 3, 4, 5, 8, 9, 16, 17};
        int[] widths = {22, 23, 23, 24, 24, 25, 25, 26};
        for (int i = 0; i < levels.length; i++) {
            x.loop(0, 1, 100, levels[i], 60000, false);
            is("M " + (levels[i] - 1), x.comb(5, 16, 8, 0), widths[i]);
        }
        alwaysTelling(1, 2);
        x.deviation(0, 23);
        is("1,023", x.comb(1, 1, 8, 1), 11);
        x.deviation(0, 24);
        is("1,024", x.comb(1, 1, 8, 1), 12);
        is("need() of it", x.need(1024), 12);

        sentence("9: (NONE with STATUS 0: none)");
        x.loop(0, 1, 100, 3, 60000, false);
        x.deviation(0, 24);
        x.deviation(1, 23);
        x.deviation(2, 99);
        is("2,047 times 2 to the power of 20", x.comb(5, 16, 8, 1), 32);
        x.deviation(1, 24);
        is("2,048 times 2 to the power of 20", x.comb(5, 16, 8, 1), -1);
        is("it was told all the same", x.response(75), 1);
        is("IN 0", x.comb(5, 16, 8, 0), 23);
    }

    // ---- 10 and 11

    private static void tellingFolds() {
        sentence("10: TAPS 3: the first four, SHIFT; FOLDS BEGIN ANEW: all seven together");
        x.folds(1, 0, 0, 0);
        x.clocks(5);
        is("the greatest", x.taps(999, 999, 999, 999, 12), 6993);
        toldIs(4);
        is("the comb goes on", x.told(3), 5);
        is("the least", x.taps(-999, -999, -999, -999, 0), -6993);
        is("that is -1", x.taps(0, 0, 0, -1, 0), -1);
        is("none", x.taps(999, -999, 0, 0, 0), 0);

        sentence("11: by how much they bring it down (1, 2, 4, 8)");
        for (int many = 0; many <= 3; many++) {
            is(many + " folds", x.folds(many, 3, 3, 3), 1 << many);
            x.anew(3);
            x.clocks(16);
            is("the last one told", x.told(3 + many), 16 >> many);
        }
        is("none again", x.folds(0, 0, 0, 0), 1);
        for (int stage = 4; stage < 7; stage++) {
            toldIs(stage);
        }

        sentence("11: the TAPS of each (0 to 3)");
        for (int kinds = 0; kinds < 64; kinds++) {
            x = new NoiseShaper();
            alwaysTelling(1, 2);
            x.comb(1, 16, 32, 1);
            x.taps(0, 0, 0, 8, 0);
            int[] taps = {kinds % 4, kinds / 4 % 4, kinds / 16};
            x.folds(3, taps[0], taps[1], taps[2]);
            for (int i = 0; i < 5; i++) {
                x.clocks(400);
            }
            long due = 16000;
            for (int fold = 0; fold < 3; fold++) {
                // All together are 2 to the power of shift, but of those that are told.
                due *= taps[fold] == 3 ? 8 : 1;
                is("taps " + taps[fold] + " of fold " + fold, x.latest(4 + fold, 0), due);
                int plain = new int[] {3, 5, 7, 1}[taps[fold]];
                is("work of fold " + fold, x.work(fold, 0), plain * x.told(4 + fold));
            }
        }
    }

    // ---- 12 to 14

    private static void goingOn() {
        sentence("12: A STAGE BEGINS ANEW: CLOCK: a FOLD that is silent, too");
        for (int stage = 0; stage < 7; stage++) {
            is("nothing had begun", x.anew(stage), 0);
        }
        x.clocks(1);
        is("a silent fold", x.anew(6), 1);
        is("a silent fold", x.anew(4), 1);
        is("all ahead stay", x.told(0) + x.told(1) + x.told(2) + x.told(3), 4);

        sentence("13: So many CLOCKS (1 to 400): CLOCK then");
        is("one", x.clocks(1), 1);
        is("the most", x.clocks(400), 401);
        for (int i = 0; i < 500; i++) {
            x.clocks(400);
        }
        is("as many as 512 calls can", x.clocks(400), 401 + 501 * 400);
        is("told", x.told(0), 401 + 501 * 400);
        is("outs together", x.sum(2), (401 + 501 * 400) / 2);

        sentence("14: How many numbers a STAGE told since it BEGAN: more than LATEST has");
        x.folds(1, 0, 0, 0);
        x.clocks(99);
        is("source", x.told(0), 99);
        is("fold", x.told(4), 49);
        is("silent fold", x.told(5), 0);
        no("kept", x.latest(4, 48), 5);
    }

    // ---- 15 and 16

    private static void latestAndState() {
        sentence("15: The i-th of LATEST of a STAGE, the latest first; STATUS tells NONE from -1");
        x.source(2, -1, 1, 48);
        x.clocks(48);
        is("the latest", x.latest(0, 0), -1);
        is("the eldest", x.latest(0, 47), -1);
        x.clocks(1);
        is("the latest", x.latest(0, 0), 1);
        is("the eldest", x.latest(0, 47), -1);
        no("one more", x.latest(0, 48), 5);

        sentence("15: of the LOOP y");
        alwaysTelling(16, 17);
        x.clocks(1);
        is("the greatest", x.latest(1, 0), 16);
        is("analog", x.latest(2, 0), 16000);

        sentence("16: e1 to e4, s1 to s4 (0 behind ORDER); STATUS tells NONE from -1");
        x.source(0, 1, 0, 1);
        for (int order = 1; order <= 4; order++) {
            x.loop(1, order, 2, 3, 60000, false);
            x.clocks(1);
            for (int i = 0; i < 4; i++) {
                is("sum " + i, x.state(i), i < order ? 1 : 0);
            }
        }
        x.source(0, -1, 0, 1);
        x.clocks(1);
        statesAre(-1, -1, -1, -1);
        x.loop(0, 1, 1, 2, 60000, false);
        x.clocks(1);
        is("a value of -1", x.state(4), -1);

        sentence("16: 7: HITS of all CLOCKS since the LOOP BEGAN, 8: how many CLOCKS since then had one");
        x.source(0, 30000, 0, 1);
        x.loop(1, 4, 1, 2, 1, false);
        is("none", x.state(7) + x.state(8), 0);
        x.clocks(1);
        // The first is hit alone, as the others get 1 from it.
        is("hits", x.state(7), 1);
        x.clocks(1);
        // The value was 1: others stay at 1.
        is("hits", x.state(7), 2);
        is("clocks with one", x.state(8), 2);
        x.source(0, -30000, 0, 1);
        x.loop(2, 2, 100, 2, 60, false);
        x.clocks(1);
        // -29,900 is held at -60; of that and 0, less -100, 40 is not hit.
        is("hits", x.state(7), 1);
        x.clocks(1);
        // -60 and 40, less -100, is 80.
        is("hits", x.state(7), 3);
        is("clocks with one", x.state(8), 2);
        x.anew(1);
        is("anew", x.state(7) + x.state(8), 0);

        sentence("16: 13: numbers that are ASKED");
        for (int u = 0; u < 14; u++) {
            is("so many", x.state(13), Math.min(12, u));
            x.tone(u, 0);
        }
        is("not more than 12", x.state(13), 12);
    }

    // ---- 17 and 18

    private static void sumAndGap() {
        sentence("17: Since the LOOP BEGAN, together; STATUS tells NONE from -1");
        x.source(0, -1, 0, 1);
        x.clocks(1);
        is("source's numbers", x.sum(0), -1);
        x.clocks(1);
        is("source's numbers", x.sum(0), -2);
        x.loop(0, 1, 1, 2, 60000, false);
        x.clocks(1);
        is("values", x.sum(1), -1);
        x.loop(1, 1, 5000, 2, 9, false);
        x.source(0, -10, 0, 1);
        x.clocks(1);
        is("lost", x.sum(3), -1);
        x.loop(0, 1, 100, 3, 60000, false);
        x.source(0, 0, 0, 1);
        x.deviation(1, 1);
        x.clocks(1);
        is("drift", x.sum(4), -1);

        sentence("17: Since the LOOP BEGAN, together: as far as 512 calls can");
        x.source(0, 30000, 0, 1);
        x.loop(1, 4, 5000, 17, 1, false);
        for (int i = 0; i < 480; i++) {
            x.clocks(400);
        }
        is("source's numbers", x.sum(0), 480L * 400 * 30000);
        is("gap", x.gap(0, 0), x.sum(1) - x.sum(0));
        x = new NoiseShaper();
        for (int i = 0; i < 16; i++) {
            x.deviation(i, 99);
        }
        alwaysTelling(16, 17);
        for (int i = 0; i < 480; i++) {
            x.clocks(400);
        }
        is("analog", x.sum(5), 480L * 400 * 16 * 1099);
        is("no drift", x.sum(4), 0);

        sentence("18: 1: the greatest GAP behind any CLOCK since the LOOP BEGAN, without its sign");
        x.source(0, 30, 0, 1);
        x.clocks(1);
        is("70", x.gap(1, 0), 70);
        x.clocks(1);
        // 70, then -60.
        is("gap", x.gap(0, 0), -60);
        is("the one ahead of it", x.gap(1, 0), 70);
        x.source(0, -30, 0, 1);
        x.clocks(1);
        is("gap", x.gap(0, 0), -70);
        is("without its sign", x.gap(1, 0), 70);
        x.source(0, 1, 0, 1);
        x.loop(0, 1, 1, 3, 60000, false);
        x.clocks(1);
        is("a gap of -1", x.gap(0, 0), -1);

        sentence("18: 2: of so many CLOCKS side by side (n, 1 to 48, of LATEST of the SOURCE and the LOOP)");
        x.clocks(3);
        // The source has more of LATEST than the loop: those of the same clocks go together.
        x.source(1, 0, 10, 1000);
        x.clocks(50);
        x.loop(0, 1, 5000, 2, 1, false);
        x.clocks(47);
        no("48 of 47", x.gap(2, 48), 5);
        is("47 of 47", x.gap(2, 47), Math.abs(x.gap(0, 0)));
        x.clocks(1);
        is("48 of 48", x.gap(2, 48), Math.abs(x.gap(0, 0)));
        // Numbers of 530 to 1,000, each told as 5,000.
        is("1 of 48", x.gap(2, 1), 5000 - 530);
        is("2 of 48", x.gap(2, 2), 10000 - 530 - 540);
        x.clocks(1);
        is("the eldest went", x.gap(2, 1), 5000 - 540);
        long gap = 0;
        for (int i = 0; i < 48; i++) {
            gap += 5000 - 540 - 10 * i;
        }
        is("48 of 49", x.gap(2, 48), gap);
    }

    // ---- 19 and 20

    private static void rangeAndSteady() {
        sentence("19: 0: the least, 1: the greatest, 2: all together (5: it has none); STATUS tells NONE from -1");
        x.source(0, -1, 0, 1);
        no("none", x.range(0, 0), 5);
        x.clocks(1);
        for (int what = 0; what < 3; what++) {
            is("of one", x.range(0, what), -1);
        }
        x.source(1, -30000, 1, 1000);
        x.clocks(49);
        is("least of 48", x.range(0, 0), -30000 + 2);
        is("greatest of 48", x.range(0, 1), -30000 + 49);
        is("together", x.range(0, 2), 48 * -30000 + 24 * (2 + 49));

        sentence("19: all together: more than an int");
        alwaysTelling(1, 2);
        x.deviation(0, 24);
        x.comb(5, 16, 32, 1);
        x.taps(0, 0, 0, 2, 0);
        x.folds(1, 3, 0, 0);
        for (int i = 0; i < 5; i++) {
            x.clocks(400);
        }
        is("of the comb", x.range(3, 2), 48L << 30);
        is("of a fold", x.range(4, 0), LEAST);
        is("of a fold", x.range(4, 2), 48L * LEAST);

        sentence("20: not farther than d (0 to 30,000) from the latest one (it too)");
        x.source(1, 0, 30000, 3);
        x.clocks(2);
        is("just so far", x.steady(0, 30000), 2);
        is("one too far", x.steady(0, 29999), 1);
        is("itself", x.steady(0, 0), 1);
        x.source(2, -15000, 15000, 1);
        x.clocks(2);
        is("the greatest d", x.steady(0, 30000), 2);
        x.source(2, -15000, 15001, 1);
        x.clocks(2);
        toldIs(0, -15000, 15001);
        is("one more than the greatest d", x.steady(0, 30000), 1);

        sentence("20: the latest first, one behind the other");
        x.source(1, 0, 4, 4);
        x.clocks(47);
        // .. 0 4 8 12 0 4 8
        is("it and 4", x.steady(0, 4), 2);
        is("it, 4, 0, 12", x.steady(0, 8), 47);
        is("one alone, though others are like it", x.steady(0, 3), 1);
        x.clocks(1);
        is("48", x.steady(0, 12), 48);
        x.clocks(1);
        is("not more than 48", x.steady(0, 12), 48);

        sentence("20: farther than d: numbers that are as far apart as can be");
        alwaysTelling(10, 17);
        x.way(1);
        x.deviation(0, 3);
        x.deviation(3, 3);
        x.comb(2, 6, 32, 1);
        x.taps(851, 851, 851, 857, 0);
        x.folds(1, 3, 0, 0);
        for (int i = 0; i < 10; i++) {
            x.clocks(400);
        }
        // Their lowest 32 bits: a little more than 2 to the power of 31 became a number below 0.
        is("near the least", x.latest(4, 0) < LEAST + 30000 ? 1 : 0, 1);
        is("near the greatest", x.latest(4, 1) > MOST - 28000 ? 1 : 0, 1);
        is("far apart", x.steady(4, 30000), 1);
    }

    // ---- 21 and 22

    private static void elementAndSpread() {
        sentence("21: 4: 1 if it is ON since the latest CLOCK, else 0");
        alwaysTelling(1, 4);
        x.way(1);
        is("no clock yet", x.element(0, 4) + x.element(1, 4) + x.element(2, 4), 0);
        for (int i = 0; i < 7; i++) {
            x.clocks(1);
            for (int element = 0; element < 3; element++) {
                is("clock " + i, x.element(element, 4), element == i % 3 ? 1 : 0);
                is("how often", x.element(element, 1), (i + 3 - element) / 3);
            }
        }
        x.anew(2);
        is("anew", x.element(0, 4) + x.element(0, 1), 0);

        sentence("21: Of an ELEMENT that there is; STATUS tells NONE from -1");
        alwaysTelling(1, 3);
        x.way(2);
        x.clocks(1);
        is("a debt of -1", x.element(0, 2), -1);
        is("a sum of -1", x.element(0, 3), -1);
        is("the other one", x.element(1, 2), 1);
        no("no third one", x.element(2, 2), 2);
        x.way(0);
        x.clocks(3);
        is("no debts by another way", x.element(0, 2) + x.element(0, 3) + x.element(1, 2), 0);

        sentence("22: SPREAD");
        is("no clock", x.spread(), 0);
        x.clocks(400);
        is("one element", x.spread(), 0);
        alwaysTelling(1, 17);
        x.clocks(400);
        is("one of 16 always", x.spread(), 400);
        x.way(1);
        x.clocks(16);
        is("round", x.spread(), 0);
        x.clocks(1);
        is("one more", x.spread(), 1);
        alwaysTelling(1, 4);
        x.way(2);
        x.clocks(4);
        // 0, 1, 2 and 2 again: the last one was on most.
        is("the last most", x.spread(), 1);
        is("the last most", x.element(2, 1), 2);
    }

    // ---- 23 to 25

    private static void combedWrongWork() {
        sentence("23: SUM i (0 the first) of COMB (5: not below ORDER); STATUS tells NONE from -1");
        alwaysTelling(1, 2);
        for (int order = 1; order <= 5; order++) {
            x.comb(order, 16, 8, 0);
            for (int i = 0; i < 5; i++) {
                if (i < order) {
                    is("nothing came", x.combed(i), 0);
                } else {
                    no("not below order", x.combed(i), 5);
                }
            }
            x.clocks(255);
            is("255 in 8 bits", x.combed(0), -1);
            x.clocks(1);
            is("256 in 8 bits", x.combed(0), 0);
        }

        sentence("24: How many numbers of COMB since it BEGAN were not TRUE; of the latest one (5: none was told)");
        alwaysTelling(1, 2);
        x.deviation(0, 24);
        x.comb(1, 2, 12, 1);
        x.clocks(1);
        is("none yet", x.wrong(0), 0);
        no("none was told", x.wrong(1), 5);
        x.clocks(1);
        is("2,048 in 12 bits", x.wrong(0), 1);
        is("by so much", x.wrong(1), 4096);
        x.clocks(2);
        is("two", x.wrong(0), 2);
        x.source(0, -100, 0, 1);
        no("none was told since", x.wrong(1), 5);
        x.clocks(2);
        is("0 is right", x.wrong(0), 0);
        is("0 is right", x.wrong(1), 0);

        sentence("24: TRUE of the latest one less it: the latest is right though others were not");
        // Four of 1,024 at clocks 0 to 3 and 4 to 7, then none.
        for (int i = 0; i < 16; i++) {
            x.sample(i, i < 8 ? 100 : -100);
        }
        x.source(3, 0, 0, 1);
        x.deviation(0, 24);
        x.comb(1, 4, 13, 1);
        x.clocks(8);
        toldIs(3, -4096, -4096);
        is("both are wrong", x.wrong(0), 2);
        is("by so much", x.wrong(1), 8192);
        x.clocks(4);
        toldIs(3, -4096, -4096, 0);
        is("two are wrong", x.wrong(0), 2);
        is("the latest is right", x.wrong(1), 0);

        sentence("25: Of a FOLD (0 to 2), PLAIN since it BEGAN, FOLDED (2: it is not told)");
        no("no folds", x.work(0, 0), 2);
        x.folds(2, 2, 0, 1);
        is("nothing told", x.work(0, 0) + x.work(1, 1), 0);
        no("the third is not", x.work(2, 0), 2);
        x.clocks(3);
        is("one told", x.work(0, 0), 7);
        is("one told", x.work(0, 1), 4);
        is("none told", x.work(1, 0), 0);
        x.clocks(1);
        is("one told", x.work(1, 0), 3);
        is("one told", x.work(1, 1), 2);
        x.anew(5);
        is("it goes on", x.work(0, 0), 14);
        is("it began anew", x.work(1, 0), 0);
    }

    // ---- 26 to 28

    private static void need() {
        sentence("26: The least WIDTH (8 to 32): RATIO to the power of ORDER, times most, is less than 2 to the power of"
                + " WIDTH less 1");
        is("none comes in", x.need(0), 8);
        for (int width = 8; width <= 17; width++) {
            is("one less", x.need((1 << (width - 1)) - 1), width);
            is("just so much", x.need(1 << (width - 1)), width + 1);
        }
        is("the most", x.need(100000), 18);
        x.comb(5, 2, 32, 0);
        is("96", x.need(3), 8);
        is("128", x.need(4), 9);
        x.comb(4, 16, 32, 0);
        is("2 to the power of 31, less 2 to the power of 16", x.need(32767), 32);
        no("2 to the power of 31", x.need(32768), 5);
        x.comb(5, 16, 32, 0);
        is("none comes in", x.need(0), 8);
        is("2 to the power of 20", x.need(1), 22);
        is("2 to the power of 30", x.need(1024), 32);
        is("2 to the power of 31, less 2 to the power of 20", x.need(2047), 32);
        no("2 to the power of 31", x.need(2048), 5);
        no("2 to the power of 32", x.need(4096), 5);
        no("the most", x.need(100000), 5);
        // 15 to the power of 5 is 759,375; 2 to the power of 31 is 2,147,483,648.
        x.comb(5, 15, 32, 0);
        is("just less", x.need(2827), 32);
        no("just more", x.need(2828), 5);
    }

    private static void response() {
        sentence("27: number i of RATIO ones, folded by themselves ORDER times (5: behind its end)");
        for (int order = 1; order <= 5; order++) {
            for (int ratio = 1; ratio <= 16; ratio++) {
                x = new NoiseShaper();
                x.comb(order, ratio, 8, 0);
                int last = order * (ratio - 1);
                is("the first", x.response(0), 1);
                is("the last", x.response(last), 1);
                no("behind its end", x.response(last + 1), 5);
                no("far behind its end", x.response(MOST), 5);
                long together = 0;
                long power = 1;
                for (int i = 0; i <= last; i++) {
                    together += x.response(i);
                    is("alike from both ends", x.response(i), x.response(last - i));
                }
                for (int i = 0; i < order; i++) {
                    power *= ratio;
                }
                is("all together", together, power);
            }
        }
        no("below 0", x.response(-1), 1);

        sentence("27: What COMB tells, all in all, of one 1 that came in i CLOCKS ahead of the last one");
        for (int order = 1; order <= 5; order++) {
            for (int at = 0; at < 4; at++) {
                x = new NoiseShaper();
                for (int i = 0; i < 16; i++) {
                    x.sample(i, i == at ? 100 : -100);
                }
                x.source(3, 0, 0, 1);
                x.comb(order, 4, 32, 0);
                x.clocks(16);
                // It is told at clocks 3, 7, 11, 15.
                toldIs(3, respondedTo(3 - at), respondedTo(7 - at), respondedTo(11 - at), respondedTo(15 - at));
            }
        }
    }

    private static int respondedTo(int i) {
        int got = x.response(i);
        return x.status() == 0 ? got : 0;
    }

    private static void half() {
        sentence("28: 1: 1 if each second one from the midst on is 0 (but that), else 0");
        is("taps 0", x.half(0, 1), 1);
        is("taps 1", x.half(1, 1), 1);
        is("taps 2", x.half(2, 1), 1);
        is("all 0", x.half(3, 1), 1);
        x.taps(0, 1, 0, 0, 0);
        is("the second", x.half(3, 1), 0);
        x.taps(0, -1, 0, 5, 0);
        is("the second", x.half(3, 1), 0);
        x.taps(9, 0, 9, 0, 0);
        is("the first and third", x.half(3, 1), 1);
        x.taps(0, 0, 0, 9, 0);
        is("the midst", x.half(3, 1), 1);

        sentence("28: 0: all together, 2: SHIFT, 3: how many are not 0");
        int[][] rows = {{0, 0, 0, 0, 0, 0, 0}, {0, 0, 0, -1, 12, -1, 1}, {-1, 1, -999, 999, 1, -999, 7},
            {999, 999, 999, 999, 12, 6993, 7}, {-999, -999, -999, -999, 0, -6993, 7}, {1, 0, 0, 0, 3, 2, 2}};
        for (int[] row : rows) {
            x.taps(row[0], row[1], row[2], row[3], row[4]);
            is("together", x.half(3, 0), row[5]);
            is("shift", x.half(3, 2), row[4]);
            is("not 0", x.half(3, 3), row[6]);
        }
        long[][] fixed = {{4, 2, 3}, {32, 5, 5}, {512, 9, 7}};
        for (int taps = 0; taps < 3; taps++) {
            is("together", x.half(taps, 0), fixed[taps][0]);
            is("shift", x.half(taps, 2), fixed[taps][1]);
            is("not 0", x.half(taps, 3), fixed[taps][2]);
        }
    }

    // ---- 29 and 30

    private static void beatAndTonal() {
        sentence("29: BEAT of a LAG (0 to 47) (5: LATEST has not more than LAG)");
        x.source(0, 9, 0, 1);
        for (int stage = 0; stage < 3; stage++) {
            no("none told", x.beat(stage, 0), 5);
        }
        x.clocks(1);
        for (int stage = 0; stage < 3; stage++) {
            is("one alone", x.beat(stage, 0), 0);
            no("one alone", x.beat(stage, 1), 5);
        }
        x.clocks(46);
        no("47", x.beat(1, 47), 5);
        x.clocks(1);
        // There is one such pair alone.
        long n = 48;
        long sum = x.range(1, 2);
        is("48", x.beat(1, 47), (n * x.latest(1, 0) - sum) * (n * x.latest(1, 47) - sum));
        x.clocks(400);
        is("of LATEST alone", x.beat(0, 47), 0);

        sentence("30: The LAG from 2 to 24 by which BEAT of a STAGE is greatest, of several the least (5: not more"
                + " than 24)");
        x.source(2, 5, -5, 1);
        x.clocks(24);
        no("24", x.tonal(0), 5);
        x.clocks(1);
        is("25: the least lag", x.tonal(0), 2);
        x.clocks(100);
        is("48: the least lag", x.tonal(0), 2);
        for (int c = 1; c <= 60; c++) {
            x = new NoiseShaper();
            x.source(1, 0, 1, c);
            x.clocks(48);
            int best = 2;
            for (int lag = 3; lag <= 24; lag++) {
                best = x.beat(0, lag) > x.beat(0, best) ? lag : best;
            }
            is("all lags, of " + c, x.tonal(0), best);
        }
        // One of 24 numbers is unlike the others; below one of 25, and that lag is not looked at.
        x.loop(0, 1, 120, 2, 60000, false);
        x.source(0, -110, 0, 1);
        x.clocks(48);
        is("the greatest lag", x.tonal(1), 24);
        is("of elements, too", x.tonal(2), 24);
        x.loop(0, 1, 125, 2, 60000, false);
        x.source(0, -115, 0, 1);
        x.clocks(48);
        is("behind the greatest lag", x.beat(1, 25) > x.beat(1, x.tonal(1)) ? 1 : 0, 1);
        is("not 25", x.tonal(1) <= 24 ? 1 : 0, 1);
        x.source(0, 0, 0, 1);
        x.clocks(25);
        is("all are alike: of several the least", x.tonal(0), 2);
    }

    // ---- 31 to 34

    private static void tone() {
        sentence("31: 3: how many unlike OUTS, 4: how often an OUT is followed by another one (round the PATTERN)");
        long[] of50 = {0, 4, 3, 2, 2, 3};
        for (int what = 0; what < 6; what++) {
            // 1 0 1 1: the longest run goes over the end.
            is("of 50, what " + what, x.tone(50, what), of50[what]);
        }
        long[] of0 = {0, 2, 1, 2, 2, 1};
        for (int what = 0; what < 6; what++) {
            is("of 0, what " + what, x.tone(0, what), of0[what]);
        }

        sentence("31: 5: the longest run of one OUT (the PERIOD, if there is one alone)");
        is("a period of 1", x.tone(100, 5), 1);
        is("no other one", x.tone(100, 4), 0);
        is("one alone", x.tone(100, 3), 1);
        // Errors of 50, 100, 150, and 0 again, as it is calm: 1 at each.
        x.loop(0, 1, 100, 2, 199, true);
        long[] want = {0, 4, 4, 1, 0, 4};
        for (int what = 0; what < 6; what++) {
            is("a period of 4, what " + what, x.tone(150, what), want[what]);
        }

        sentence("31: a PATTERN as long as can be");
        x.loop(0, 1, 5000, 2, 60000, false);
        is("period", x.tone(10, 1), 1000);
        is("outs", x.tone(10, 2), 501);
        is("unlike", x.tone(10, 3), 2);
        // 1 0 1 0 .., and once 1 1.
        is("changes", x.tone(10, 4), 998);
        is("run", x.tone(10, 5), 2);
        is("nearly all alike: outs", x.tone(-4990, 2), 1);
        is("nearly all alike: changes", x.tone(-4990, 4), 2);
        is("nearly all alike: run", x.tone(-4990, 5), 999);

        sentence("31: 3: how many unlike OUTS: all 17");
        x.loop(0, 3, 33, 17, 967, false);
        is("lead", x.tone(-490, 0), 108);
        is("period", x.tone(-490, 1), 183);
        boolean[] seen = new boolean[17];
        int outs = 0;
        int changes = 0;
        int last = x.out(-490, 107 + 183);
        for (int t = 108; t < 108 + 183; t++) {
            int y = x.out(-490, t);
            seen[y] = true;
            outs += y;
            changes += y == last ? 0 : 1;
            last = y;
        }
        for (int y = 0; y < 17; y++) {
            is("out " + y, seen[y] ? 1 : 0, 1);
        }
        is("unlike", x.tone(-490, 3), 17);
        is("outs", x.tone(-490, 2), outs);
        is("changes", x.tone(-490, 4), changes);

        sentence("31: (5: it does not COME ROUND; u is ASKED then, too)");
        x.loop(0, 1, 5000, 2, 60000, false);
        for (int what = 0; what < 6; what++) {
            no("what " + what, x.tone(what + 1, what), 5);
            is("asked", x.asked(what), what + 1);
        }
        is("asked", x.state(13), 6);
    }

    private static void outAndAsked() {
        sentence("32: OUT at CLOCK t (0 to 999) of the TONE of u");
        // 1 0 1 1, from the first clock on.
        for (int t = 0; t < 1000; t += t == 39 ? 921 : 1) {
            is("clock " + t, x.out(50, t), t % 4 == 1 ? 0 : 1);
        }
        for (int t : new int[] {0, 1, 999}) {
            is("the greatest u", x.out(30000, t), 1);
            is("the least u", x.out(-30000, t), 0);
        }
        is("not asked", x.state(13), 0);
        x.dither(5000, 5);
        x.clocks(3);
        is("without dither, all 0", x.out(50, 0), 1);
        is("x stays", x.told(1), 3);

        sentence("33: The i-th of ASKED (1: below 0; 5); STATUS tells NONE from -1");
        no("none", x.asked(0), 5);
        x.tone(-1, 0);
        is("one that is -1", x.asked(0), -1);
        no("one alone", x.asked(1), 5);
        no("below 0", x.asked(-1), 1);
        x.tone(-30000, 0);
        x.tone(30000, 0);
        is("the least", x.asked(1), -30000);
        is("the greatest", x.asked(2), 30000);
    }

    private static void idle() {
        sentence("34: 0: how many COME ROUND with a PERIOD up to most (1 to 1,000)");
        // 50 has a period of 4, 0 of 2, 100 of 1.
        is("4", x.idle(50, 1, 4, 0), 1);
        is("not 3", x.idle(50, 1, 3, 0), 0);
        is("1", x.idle(100, 1, 1, 0), 1);
        is("0 is not 1", x.idle(0, 1, 1, 0), 0);
        x.loop(0, 1, 5000, 2, 60000, false);
        is("1,000", x.idle(10, 1, 1000, 0), 1);
        is("not 999", x.idle(10, 1, 999, 0), 0);
        is("not at all", x.idle(1, 7, 1000, 0), 0);
        no("which of none", x.idle(1, 7, 1000, 1), 5);
        x.loop(1, 1, 999, 2, 60000, false);
        is("lead 1, period 999", x.idle(1, 1, 999, 0), 1);

        sentence("34: 1: which has the least PERIOD, of several the least; STATUS tells NONE from -1");
        is("of 0 to 59", x.idle(0, 60, 1000, 1), 0);
        is("of 41 to 100", x.idle(41, 60, 1000, 1), 100);
        is("of 42 to 101", x.idle(42, 60, 1000, 1), 100);
        is("of -60 to -1", x.idle(-60, 60, 1000, 1), -50);
        is("of several the least", x.idle(-3, 3, 1000, 1), -2);
        is("one that is -1", x.idle(-1, 1, 1000, 1), -1);
        is("far behind all values: periods of 1", x.idle(29941, 60, 1, 1), 29941);
        is("far ahead of all values: periods of 1", x.idle(-30000, 60, 1, 0), 60);
        is("the last one", x.idle(30000, 1, 1, 1), 30000);
        is("not asked", x.state(13), 0);
    }

    // ---- 35 to 38

    private static void next() {
        sentence("35: ELEMENTS (bits) that would be ON at the next CLOCK, were y told (1: not 0 to M)");
        for (int way = 0; way < 3; way++) {
            x = new NoiseShaper();
            alwaysTelling(11, 17);
            x.way(way);
            for (int i = 0; i < 8; i++) {
                is("none", x.next(0), 0);
                is("all", x.next(16), 0xFFFF);
                no("one more", x.next(17), 1);
                int bits = x.next(11);
                is("as many as told", Integer.bitCount(bits), 11);
                x.clocks(1);
                for (int element = 0; element < 16; element++) {
                    is("on", x.element(element, 4), bits >> element & 1);
                }
            }
        }
    }

    private static void ahead() {
        sentence("36: So many CLOCKS on (1 to 200) by another WAY of ELEMENTS that BEGIN ANEW, all else as it is");
        for (int way = 0; way < 9; way++) {
            for (int many : new int[] {1, 2, 17, 199, 200}) {
                busy(way / 3);
                long spread = x.ahead(many, way % 3, 0);
                long drift = x.ahead(many, way % 3, 1);
                long greatest = x.ahead(many, way % 3, 2);
                is("the way as it was", x.state(10), 1);
                x.way(way % 3);
                long behindAny = 0;
                for (int i = 0; i < many; i++) {
                    x.clocks(1);
                    behindAny = Math.max(behindAny, Math.abs(x.sum(4)));
                }
                is("spread", spread, x.spread());
                is("drift", drift, x.sum(4));
                is("greatest drift", greatest, behindAny);
            }
        }

        sentence("36: STATUS tells NONE from -1; without its sign");
        alwaysTelling(1, 3);
        x.deviation(1, 1);
        is("a drift of -1", x.ahead(1, 0, 1), -1);
        is("without its sign", x.ahead(1, 0, 2), 1);
        is("-1, then 0", x.ahead(2, 1, 1), 0);
        is("-1, then 0: the greatest", x.ahead(2, 1, 2), 1);
    }

    private static void strain() {
        sentence("37: So many CLOCKS on (1 to 200) by another LIMIT, all else as it is: how many of them have a HIT");
        for (int kind = 0; kind < 3; kind++) {
            for (int many : new int[] {1, 2, 60, 199, 200}) {
                busy(kind);
                int behind = x.strain(many, 55);
                int before = x.state(8);
                for (int i = 0; i < many; i++) {
                    x.clocks(1);
                }
                is("by the limit that there is", behind, x.state(8) - before);
                is("some", behind > 0 || many < 60 ? 1 : 0, 1);
            }
        }

        sentence("37: by another LIMIT (1 to 60,000)");
        x.loop(0, 1, 100, 2, 60000, false);
        x.source(0, 300, 0, 1);
        x.clocks(2);
        statesAre(400);
        // The error that there is stays as it is, though it is farther than the limit: then 600, 800 ..
        is("just so far", x.strain(1, 600), 0);
        is("one less", x.strain(1, 599), 1);
        is("two, just so far", x.strain(2, 800), 0);
        is("two, one less", x.strain(2, 799), 1);
        is("the least", x.strain(200, 1), 200);
        is("the greatest: 200 more each, 298 of them", x.strain(200, 60000), 0);
        x.source(0, 30000, 0, 1);
        // Errors of 29,900, 59,800, then farther than 60,000.
        is("the greatest", x.strain(2, 60000), 0);
        is("the greatest", x.strain(200, 60000), 198);
    }

    private static void calmed() {
        sentence("38: The least LIMIT (by 1, from 1 on, up to most, 1 to 400) by which so many CLOCKS on have no HIT");
        x.source(0, 300, 0, 1);
        is("an error of 200", x.calmed(1, 400), 200);
        is("just so much", x.calmed(1, 200), 200);
        no("one less", x.calmed(1, 199), 5);
        is("two: 400", x.calmed(2, 400), 400);
        no("two: 399", x.calmed(2, 399), 5);
        no("three: 600", x.calmed(3, 400), 5);
        no("60", x.calmed(60, 400), 5);
        x.source(0, 301, 0, 1);
        no("two: 402", x.calmed(2, 400), 5);
        x.source(0, 100, 0, 1);
        is("none at all: the least that there is", x.calmed(60, 1), 1);
        x.source(0, 101, 0, 1);
        is("an error of 1", x.calmed(1, 1), 1);
        no("of 2", x.calmed(2, 1), 5);
        is("of 60", x.calmed(60, 400), 60);

        sentence("38: The least LIMIT: as strain() tells");
        for (int kind = 0; kind < 3; kind++) {
            x.loop(kind, 2, 30, 4, 500, kind == 1);
            x.dither(7, 3);
            x.source(1, -40, 9, 9);
            for (int i = 0; i < 12; i++) {
                x.clocks(5);
                int least = x.calmed(10, 400);
                is("some", least > 0 ? 1 : 0, 1);
                is("no hit", x.strain(10, least), 0);
                is("a hit by one less", least == 1 ? 1 : Math.min(1, x.strain(10, least - 1)), 1);
            }
        }
    }
}
