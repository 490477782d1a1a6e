import java.math.BigInteger;

/** The sentences of "Terms" and "==== 2." that name a boundary, each by itself, in the document's order. */
public final class TermsEdgeTest extends EdgeCheck {
    private static final int LEAST = Integer.MIN_VALUE;
    private static final int MOST = Integer.MAX_VALUE;

    public static void main(String[] args) {
        stages();
        beginningAnew();
        source();
        sourceAtItsEnds();
        loopAtFirst();
        telling();
        holding();
        errorsAndSums();
        cascade();
        calm();
        dither();
        elements();
        rotated();
        twice();
        comb();
        trueNumbers();
        folds();
        foldsAtTheirEnds();
        gapDriftSpread();
        latest();
        beat();
        toneComesRound();
        toneOfAllThatItHas();
        asked();
        end();
    }

    /** Errors of 0: the loop tells these outs, one a clock, and begins with the first again behind the 16th. */
    private static void tellsInTurn(int m, int... outs) {
        for (int i = 0; i < 16; i++) {
            x.sample(i, 100 * (2 * outs[i % outs.length] + 1 - m));
        }
        x.loop(0, 1, 100, m, 60000, false);
        x.source(3, 0, 0, 1);
    }

    // ---- STAGES

    private static void stages() {
        sentence("4 to 6 FOLDS (as many as are told, 0 to 3; those that are not are silent)");
        for (int many = 0; many <= 3; many++) {
            x.folds(many, 0, 0, 0);
            x.clocks(16);
            for (int fold = 0; fold < 3; fold++) {
                is(many + " folds, told by " + fold, x.told(4 + fold), fold < many ? 8 >> fold : 0);
            }
        }

        sentence("CLOCKS have numbers from 0 on");
        x.source(1, 0, 1, 1000);
        is("clock", x.state(11), 0);
        x.clocks(3);
        toldIs(0, 0, 1, 2);

        sentence("a STAGE that tells a number hands it to the next one");
        alwaysTelling(1, 2);
        x.folds(3, 0, 0, 0);
        x.clocks(1);
        for (int stage = 0; stage < 7; stage++) {
            is("told at one clock by stage " + stage, x.told(stage), stage < 4 ? 1 : 0);
        }
        x.clocks(6);
        is("seven numbers", x.told(6), 0);
        x.clocks(1);
        is("eight numbers, of one clock", x.told(6), 1);
        x.comb(1, 2, 32, 0);
        x.clocks(3);
        is("none is handed on that is not told", x.told(4), 0);
        x.clocks(1);
        is("none is handed on that is not told", x.told(4), 1);
    }

    private static void beginningAnew() {
        sentence("what it has is 0, it has told nothing; so do all STAGES behind it");
        NoiseShaper other = allStages();
        other.clocks(50);
        for (String name : new String[] {"anew", "source", "dither", "loop"}) {
            x = allStages();
            x.clocks(98);
            int[] same = name.equals("anew") ? new int[] {0} : name.equals("source") ? new int[] {0, 40, 0, 1}
                    : name.equals("dither") ? new int[] {30, 7} : new int[] {2, 3, 100, 3, 150, 1};
            call(x, name, same);
            x.clocks(50);
            // The source tells one number always: it is as if all had begun with the object.
            for (int stage = name.equals("anew") || name.equals("source") ? 0 : 1; stage < 7; stage++) {
                is(name + ", stage " + stage, x.told(stage), other.told(stage));
                is(name + ", stage " + stage, x.latest(stage, 0), other.latest(stage, 0));
                is(name + ", stage " + stage, x.range(stage, 2), other.range(stage, 2));
            }
            for (int what = 0; what < 11; what++) {
                is(name + ", state " + what, x.state(what), other.state(what));
                is(name + ", sum " + what % 6, x.sum(what % 6), other.sum(what % 6));
                is(name + ", element " + what, x.element(what, 3), other.element(what, 3));
            }
            is(name + ", greatest gap", x.gap(1, 0), other.gap(1, 0));
            is(name + ", wrong", x.wrong(0), other.wrong(0));
        }

        sentence("CLOCKS go on; what is told of them stays");
        x = allStages();
        x.sample(3, 17);
        x.tone(5, 0);
        x.clocks(20);
        for (int stage = 0; stage < 7; stage++) {
            is("clock", x.anew(stage), 20);
        }
        is("dither and seed", x.state(5), 7);
        is("elements", x.state(9), 14);
        is("way", x.state(10), 2);
        is("folds", x.state(12), 3);
        is("asked", x.state(13), 1);
        is("sample", x.sample(3, 0), 17);
        is("deviation", x.deviation(13, 0), 9);
        is("order and ratio of the comb", x.response(4), 1);
        is("taps", x.half(3, 0), 20);
        x.clocks(1);
        is("source", x.latest(0, 0), 40);

        sentence("so do all STAGES behind it: a FOLD alone");
        alwaysTelling(2, 4);
        x.comb(1, 3, 32, 0);
        x.folds(3, 0, 0, 0);
        x.clocks(96);
        is("fold 0 goes on", x.anew(5), 96);
        x.clocks(24);
        is("fold 0 went on", x.told(4), 20);
        is("fold 0 went on", x.latest(4, 3), 6);
        // 6 and 6 with 0 ahead of them, by 4, then with 6 ahead of them.
        toldIs(5, 4, 6);
        toldIs(6, (6 + 2 * 4) / 4);
    }

    private static NoiseShaper allStages() {
        x = new NoiseShaper();
        x.source(0, 40, 0, 1);
        x.loop(2, 3, 100, 3, 150, true);
        x.dither(30, 7);
        x.way(2);
        x.deviation(13, 9);
        x.comb(2, 3, 10, 1);
        x.taps(1, 2, 3, 8, 3);
        x.folds(3, 0, 3, 1);
        return x;
    }

    // ---- SOURCE

    private static void source() {
        sentence("1: A and B times the rest of t by C, together");
        x.source(1, 5, 3, 1);
        x.clocks(2);
        toldIs(0, 5, 5);
        x.source(1, 0, 1, 5);
        x.clocks(4);
        // Clocks 2 to 5: the rest is of the clock, not of how many were told.
        toldIs(0, 2, 3, 4, 0);
        x.source(1, 5, 3, 1000);
        manyClocks(9);
        x.clocks(93);
        is("clock", x.clocks(2), 1001);
        is("rest 999", x.latest(0, 1), 5 + 3 * 999);
        is("rest 0 again", x.latest(0, 0), 5);

        sentence("2: A, if the rest of t by 2 times C is below C, else B");
        x.source(2, 7, -7, 1);
        x.clocks(4);
        toldIs(0, 7, -7, 7, -7);
        x.source(2, 7, -7, 1000);
        manyClocks(9);
        x.clocks(95);
        x.clocks(2);
        is("rest 999", x.latest(0, 1), 7);
        is("rest 1,000", x.latest(0, 0), -7);
        manyClocks(9);
        x.clocks(98);
        x.clocks(2);
        is("rest 1,999", x.latest(0, 1), -7);
        is("rest 0 again", x.latest(0, 0), 7);

        sentence("3: SAMPLE number (rest of t by 16)");
        for (int i = 0; i < 16; i++) {
            x.sample(i, 100 + i);
        }
        x.source(3, 1, 2, 3);
        x.clocks(33);
        for (int t = 0; t < 33; t++) {
            is("clock " + t, x.latest(0, 32 - t), 100 + t % 16);
        }
    }

    private static void sourceAtItsEnds() {
        sentence("All put to -30,000 to 30,000");
        x.source(1, 29999, 1, 3);
        x.clocks(3);
        toldIs(0, 29999, 30000, 30000);
        x.source(1, -29999, -1, 3);
        x.clocks(3);
        toldIs(0, -29999, -30000, -30000);
        x.source(1, 30000, 30000, 1000);
        manyClocks(10);
        is("the greatest", x.range(0, 1), 30000);
        x.source(1, -30000, -30000, 1000);
        manyClocks(10);
        is("the least", x.range(0, 0), -30000);

        sentence("All put to -30,000 to 30,000: SAMPLES");
        int[] samples = {30000, 30001, MOST, -30000, -30001, LEAST};
        for (int i = 0; i < 6; i++) {
            x.sample(i, samples[i]);
        }
        x.source(3, 0, 0, 1);
        x.clocks(6);
        toldIs(0, 30000, 30000, 30000, -30000, -30000, -30000);
        for (int i = 0; i < 6; i++) {
            is("what it was", x.sample(i, 0), samples[i]);
        }

        sentence("KIND 0, A 0 at first; SAMPLES 0 to 15, 0 at first");
        x.clocks(1);
        toldIs(0, 0);
        for (int i = 0; i < 16; i++) {
            is("sample " + i, x.sample(i, 1), 0);
        }
        x.clocks(1);
        toldIs(0, 0, 0);
    }

    // ---- LOOP

    private static void loopAtFirst() {
        sentence("(0, 1, 100, 2, 60,000, not at first)");
        for (int clocks = 1; clocks < 6; clocks++) {
            NoiseShaper other = new NoiseShaper();
            other.loop(0, 1, 100, 2, 60000, false);
            other.source(0, 29900, 0, 1);
            other.clocks(clocks);
            x = new NoiseShaper();
            x.source(0, 29900, 0, 1);
            x.clocks(clocks);
            same("as told so", picture(x), picture(other));
        }
        // Errors of 29,800, 59,600 and what is held.
        x = new NoiseShaper();
        x.source(0, 29900, 0, 1);
        x.clocks(2);
        statesAre(59600);
        is("hits", x.state(7), 0);
        x.clocks(1);
        statesAre(60000);
        is("hits", x.state(7), 1);
        is("lost", x.sum(3), 29400);

        sentence("OUT y 0 to m - 1 has the VALUE q times (2 y and 1 less m)");
        for (int m = 2; m <= 17; m++) {
            x = new NoiseShaper();
            x.loop(0, 1, 5000, m, 1, false);
            x.source(0, -30000, 0, 1);
            x.clocks(1);
            is("least value of " + m, x.state(4), m < 8 ? 5000 * (1 - m) : (m % 2 == 0 ? -35000 : -30000));
            x.loop(0, 1, 1, m, 1, false);
            x.clocks(1);
            toldIs(1, 0);
            is("least value of " + m, x.state(4), 1 - m);
            x.source(0, 30000, 0, 1);
            x.clocks(1);
            toldIs(1, m - 1);
            is("greatest value of " + m, x.state(4), m - 1);
        }
    }

    private static void telling() {
        sentence("the OUT whose VALUE is nearest to w (of two as near the lesser OUT)");
        int[] steps = {1, 2, 7, 100, 1999};
        for (int step : steps) {
            for (int m = 2; m <= 15; m++) {
                for (int y = 0; y < m - 1; y++) {
                    int midst = step * (2 * y + 2 - m);
                    for (int kind = 0; kind < 3; kind++) {
                        outIs(kind, step, m, midst, y);
                        outIs(kind, step, m, midst + 1, y + 1);
                        outIs(kind, step, m, midst - 1, y);
                    }
                }
            }
        }

        sentence("the OUT whose VALUE is nearest to w: farther than all VALUES");
        for (int kind = 0; kind < 3; kind++) {
            outIs(kind, 1, 17, 30000, 16);
            outIs(kind, 1, 17, -30000, 0);
            outIs(kind, 5000, 17, 30000, 11);
            outIs(kind, 5000, 17, -30000, 5);
        }
    }

    private static void outIs(int kind, int step, int m, int w, int y) {
        x = new NoiseShaper();
        x.loop(kind, 1, step, m, 60000, false);
        is("kind " + kind + " step " + step + " levels " + m + " of " + w, x.out(w, 0), y);
    }

    private static void holding() {
        sentence("above LIMIT it is LIMIT, below LIMIT times -1 that: a HIT; LOST is more by the number less what it is");
        // Errors of 50 and -50, sums of 150 and -150.
        int[][] rows = {{0, 150, 50}, {0, 50, -50}, {0, -50, 50}, {0, -150, -50}, {1, 150, 150}, {1, -150, -150},
            {2, 150, 50}, {2, 50, -50}};
        for (int[] row : rows) {
            int far = Math.abs(row[2]);
            int sign = row[2] < 0 ? -1 : 1;
            heldIs(row, far + 1, row[2], 0, 0);
            heldIs(row, far, row[2], 0, 0);
            heldIs(row, far - 1, sign * (far - 1), 1, sign);
            heldIs(row, 1, sign, 1, sign * (far - 1));
        }

        sentence("a HIT: each number that is HELD by itself");
        // Both sums are 150 and held, then the first would be 149 and 150 less 100.
        x.source(0, 150, 0, 1);
        x.loop(1, 2, 100, 2, 149, false);
        x.clocks(1);
        statesAre(149, 149);
        is("only the first was hit", x.state(7), 1);
        x.clocks(1);
        statesAre(149, 149);
        is("both were hit", x.state(7), 3);
        is("clocks with a hit", x.state(8), 2);
        is("lost", x.sum(3), 1 + 50 + 49);
    }

    private static void heldIs(int[] row, int limit, int held, int hits, int lost) {
        x = new NoiseShaper();
        x.loop(row[0], 1, 100, 2, limit, false);
        x.source(0, row[1], 0, 1);
        x.clocks(1);
        statesAre(held, 0, 0, 0);
        is("hits", x.state(7), hits);
        is("clocks with a hit", x.state(8), hits);
        is("lost", x.sum(3), lost);
    }

    private static void errorsAndSums() {
        sentence("KIND 0: ERRORS e1 (the latest) to en: 0 behind ORDER");
        x.source(0, 30, 0, 1);
        for (int order = 1; order <= 4; order++) {
            x.loop(0, order, 100, 2, 60000, false);
            x.clocks(9);
            for (int i = 0; i < 4; i++) {
                is("order " + order + ", state " + i, x.state(i) == 0 ? 0 : 1, i < order ? 1 : 0);
            }
        }

        sentence("KIND 0: ORDER 1: e1; 2: 2 e1 - e2; 3: 3 e1 - 3 e2 + e3; 4: 4 e1 - 6 e2 + 4 e3 - e4");
        long[][] shares = {{1, 0, 0, 0}, {2, -1, 0, 0}, {3, -3, 1, 0}, {4, -6, 4, -1}};
        x.source(0, 30, 0, 1);
        for (int order = 1; order <= 4; order++) {
            x.loop(0, order, 100, 2, 60000, false);
            for (int i = 0; i < 12; i++) {
                long w = 30;
                for (int j = 0; j < 4; j++) {
                    w += shares[order - 1][j] * x.state(j);
                }
                x.clocks(1);
                is("out of order " + order, x.latest(1, 0), w > 0 ? 1 : 0);
                is("error of order " + order, x.state(0), w > 0 ? w - 100 : w + 100);
            }
        }

        sentence("KIND 1: a VALUE (0 at first) that was told last");
        x.source(0, 30, 0, 1);
        x.loop(1, 4, 100, 2, 60000, false);
        is("value: none", x.state(4), 0);
        x.clocks(1);
        statesAre(30, 30, 30, 30, 100);
        x.clocks(1);
        statesAre(-40, -110, -180, -250, -100);
    }

    private static void cascade() {
        sentence("what it told last, ahead of that, ahead of that (0 at first)");
        // A number far below all values: each tells 0 at first, an error far below hands that on.
        x.source(0, -30000, 0, 1);
        int[] levels = {17, 6, 3, 2};
        for (int order = 1; order <= 4; order++) {
            int m = levels[order - 1];
            x.loop(2, order, 1, m, 60000, false);
            x.clocks(1);
            toldIs(1, (m - 1) * ((1 << (order - 1)) - 1));
            is("its value is that of the first alone", x.state(4), 1 - m);
        }

        sentence("so that it is never below 0: OUT 0 and OUT M are told");
        int[][] rows = {{1, 17, 30000, -30000, 1, 1}, {2, 2, 30000, -30000, 1, 1}, {2, 6, 30000, -30000, 1, 600},
            {3, 2, 192, -69, 1, 198}, {4, 2, -20, 108, 1, 123}};
        for (int[] row : rows) {
            x = new NoiseShaper();
            int many = (row[1] - 1) * ((1 << row[0]) - 1);
            int besides = (row[1] - 1) * ((1 << (row[0] - 1)) - 1);
            is("elements", x.loop(2, row[0], 100, row[1], row[5], false), many);
            x.source(2, row[2], row[3], row[4]);
            x.clocks(40);
            is("least of order " + row[0], x.range(1, 0), 0);
            is("greatest of order " + row[0], x.range(1, 1), many);
            is("none is on", x.range(2, 0), 0);
            is("all are on", x.range(2, 1), 1000 * many);
            long value = 0;
            for (int i = 0; i < 40; i++) {
                value += 100 * (2 * x.latest(1, i) + 1 - row[1] - 2 * besides);
            }
            is("values of order " + row[0], x.sum(1), value);
        }

        sentence("of the third: now, less 2 times last, and ahead of that, of the fourth: now, less 3 times last ..");
        for (int order = 2; order <= 4; order++) {
            x = new NoiseShaper();
            x.source(0, 30, 0, 1);
            x.loop(2, order, 100, 2, 60000, false);
            long[] errors = new long[order];
            long[][] told = new long[order][4];
            for (int i = 0; i < 20; i++) {
                long gets = 30;
                for (int j = 0; j < order; j++) {
                    System.arraycopy(told[j], 0, told[j], 1, 3);
                    told[j][0] = gets + errors[j] > 0 ? 1 : 0;
                    errors[j] += gets - (told[j][0] == 1 ? 100 : -100);
                    gets = errors[j];
                }
                long y = told[0][0] + told[1][0] - told[1][1] + (1 << (order - 1)) - 1;
                y += order < 3 ? 0 : told[2][0] - 2 * told[2][1] + told[2][2];
                y += order < 4 ? 0 : told[3][0] - 3 * told[3][1] + 3 * told[3][2] - told[3][3];
                x.clocks(1);
                is("out of order " + order, x.latest(1, 0), y);
                statesAre(errors);
            }
        }

        sentence("each other one the ERROR of the one ahead (as it is now): as it was HELD");
        x.loop(2, 2, 100, 2, 30, false);
        x.source(0, 150, 0, 1);
        x.clocks(1);
        // 50 is held at 30; the second gets that, and its error of -70 is held, too.
        statesAre(30, -30);
        is("lost", x.sum(3), 20 - 40);
    }

    private static void calm() {
        sentence("If it is CALM and there was a HIT at this CLOCK, all ERRORS, SUMS are 0 behind it");
        x.source(0, 130, 0, 1);
        x.loop(0, 2, 100, 2, 90, true);
        x.clocks(2);
        // Errors of 30, then 190 less 100: as far as the limit is no hit.
        statesAre(90, 30);
        is("hits", x.state(7), 0);
        x.clocks(1);
        statesAre(0, 0);
        is("hits", x.state(7), 1);
        // 130 and 180 less 30, less 100, less 90.
        is("lost stays", x.sum(3), 90);
        toldIs(1, 1, 1, 1);
        x.clocks(1);
        statesAre(30, 0);

        sentence("(LOST, what was told stay): the VALUE of KIND 1");
        x.source(0, 130, 0, 1);
        x.loop(1, 2, 100, 2, 129, true);
        x.clocks(1);
        statesAre(0, 0, 0, 0, 100);
        is("lost", x.sum(3), 1);
        x.clocks(1);
        // 130 less 100, and that less 100.
        statesAre(30, -70, 0, 0, -100);
        is("hits", x.state(7), 1);

        sentence("(LOST, what was told stay): what each of KIND 2 told");
        x.source(0, 150, 0, 1);
        x.loop(2, 2, 100, 2, 49, true);
        x.clocks(2);
        // Both tell 1 at each clock; the second told 1 last at the second one, though all errors are 0.
        statesAre(0, 0);
        toldIs(1, 3, 2);
        is("hits", x.state(7), 4);
    }

    private static void dither() {
        sentence("DITHER: 0 without");
        x.dither(0, 12345);
        x.clocks(9);
        is("x is not drawn", x.state(5), 12345);
        toldIs(1, 0, 1, 0, 1, 0, 1, 0, 1, 0);

        sentence("of 2147483648 the rest");
        drawn(1, 0, 12345);
        drawn(1, MOST, (int) ((MOST * 1103515245L + 12345) % 2147483648L));
        drawn(5000, 230538014, MOST);

        sentence("x / 65536, cut, of 2 D + 1 the rest, less D");
        // Seeds that make x 12345, 65535, 65536, 131071, 131072, 196607 and 196608.
        int[] seeds = {0, 2032319262, 1742513795, 1686616862, 1396811395, 1340914462, 1051108995};
        int[] dithers = {-1, -1, 0, 0, 1, 1, -1};
        for (int i = 0; i < seeds.length; i++) {
            ditherIs(1, seeds[i], dithers[i]);
        }
        // x of 655,359,999, 655,360,000, 655,425,535 and 655,425,536: rests of 9,999, 10,000, 10,000 and 0.
        ditherIs(5000, 655211294, 4999);
        ditherIs(5000, 365405827, 5000);
        ditherIs(5000, 309508894, 5000);
        ditherIs(5000, 19703427, -5000);
        ditherIs(5000, 0, -5000);

        sentence("x begins anew with the LOOP, too: SEED");
        x.dither(9, 77);
        x.clocks(3);
        is("a stage behind", x.anew(2), 3);
        x.way(1);
        x.comb(1, 1, 32, 0);
        is("drawn on", x.state(5) == 77 ? 1 : 0, 0);
        for (String name : new String[] {"anew1", "anew0", "source", "loop"}) {
            x.clocks(3);
            switch (name) {
                case "anew1": x.anew(1); break;
                case "anew0": x.anew(0); break;
                case "source": x.source(0, 1, 0, 1); break;
                default: x.loop(1, 2, 50, 3, 400, true); break;
            }
            is("x behind " + name, x.state(5), 77);
        }
    }

    private static void drawn(int d, int seed, int want) {
        x.dither(d, seed);
        is("x at first", x.state(5), seed);
        x.clocks(1);
        is("x of " + seed, x.state(5), want);
    }

    /** What is told of turns from OUT 0 to OUT 1 where the source's number and the dither are 1. */
    private static void ditherIs(int d, int seed, int want) {
        for (int kind = 0; kind < 3; kind++) {
            x = new NoiseShaper();
            x.loop(kind, 1, 100, 2, 60000, false);
            x.dither(d, seed);
            x.source(0, -want, 0, 1);
            x.clocks(1);
            toldIs(1, 0);
            x.source(0, 1 - want, 0, 1);
            x.clocks(1);
            toldIs(1, 1);
            statesAre(kind == 1 ? 1 - want : 1 - want - 100);
        }
    }

    // ---- ELEMENTS

    private static void elements() {
        sentence("There are M ELEMENTS: m - 1, of KIND 2 (m - 1) times (2 to the power of n, less 1)");
        for (int m = 2; m <= 17; m++) {
            is("kind 0", x.loop(0, 4, 100, m, 60000, false), m - 1);
            is("kind 1", x.loop(1, 1, 100, m, 60000, false), m - 1);
            is("M", x.state(9), m - 1);
        }
        int[][] rows = {{1, 2, 1}, {1, 17, 16}, {2, 2, 3}, {2, 6, 15}, {3, 2, 7}, {3, 3, 14}, {4, 2, 15}};
        for (int[] row : rows) {
            is("kind 2", x.loop(2, row[0], 100, row[1], 60000, false), row[2]);
            is("the last weight", x.element(row[2] - 1, 0), 1000);
            no("no element", x.element(row[2], 0), 2);
        }

        sentence("its DEVIATION (-99 to 99, 0 at first)");
        for (int i = 0; i < 16; i++) {
            is("at first", x.deviation(i, i % 2 == 0 ? -99 : 99), 0);
        }
        x.loop(0, 1, 100, 17, 60000, false);
        for (int i = 0; i < 16; i++) {
            is("weight", x.element(i, 0), i % 2 == 0 ? 901 : 1099);
        }

        sentence("WAY 0 FIXED: the first ones: none, all");
        tellsInTurn(17, 0, 1, 16, 15);
        for (int i = 0; i < 16; i++) {
            x.deviation(i, i);
        }
        x.clocks(4);
        toldIs(2, 0, 1000, 16120, 15105);
        is("pointer", x.state(6), 0);
        is("debt", x.element(0, 2), 0);
        is("not on", x.element(15, 4), 0);
        is("on", x.element(14, 4), 1);
    }

    private static void rotated() {
        sentence("1 ROTATED: from the POINTER (0 at first) on, round all; the POINTER is behind the last one");
        tellsInTurn(4, 0, 2, 1, 3, 2, 0, 2, 3);
        for (int i = 0; i < 3; i++) {
            x.deviation(i, new int[] {1, 10, 50}[i]);
        }
        x.way(1);
        int[] pointers = {0, 2, 0, 0, 2, 2, 1, 1};
        int[] bits = {0, 0b011, 0b100, 0b111, 0b011, 0, 0b101, 0b111};
        int[] outs = {0, 2, 1, 3, 2, 0, 2, 3};
        for (int i = 0; i < 8; i++) {
            is("bits ahead " + i, x.next(outs[i]), bits[i]);
            x.clocks(1);
            is("pointer " + i, x.state(6), pointers[i]);
            for (int element = 0; element < 3; element++) {
                is("on " + i, x.element(element, 4), bits[i] >> element & 1);
            }
        }
        toldIs(2, 0, 2011, 1050, 3061, 2011, 0, 2051, 3061);

        sentence("round all: one ELEMENT alone, and 16");
        tellsInTurn(2, 1, 0);
        x.way(1);
        x.clocks(1);
        is("pointer of one", x.state(6), 0);
        is("bits of one", x.next(1), 1);
        x.clocks(1);
        is("pointer of one", x.state(6), 0);
        alwaysTelling(15, 17);
        x.clocks(1);
        is("pointer of 16", x.state(6), 15);
        is("bits of 16", x.next(15), 0xBFFF);
        is("all of 16", x.next(16), 0xFFFF);
        x.clocks(15);
        is("round", x.state(6), 0);
        is("even", x.spread(), 0);
    }

    private static void twice() {
        sentence("2 TWICE: by 2 times DEBT and the SUM the greatest, of equal ones the least number");
        alwaysTelling(1, 4);
        x.way(2);
        int[] on = {0, 1, 2, 2, 1, 0, 0};
        for (int i = 0; i < on.length; i++) {
            is("next " + i, x.next(1), 1 << on[i]);
            x.clocks(1);
            is("on " + i, x.element(on[i], 4), 1);
        }
        statesOfElement(0, -2, -2);
        statesOfElement(1, 1, 1);
        statesOfElement(2, 1, 1);
        // By 2 times -2 and -2, 2 times 1 and 1, 2 times 1 and 1.
        is("of equal ones the least", x.next(1), 0b010);
        is("two", x.next(2), 0b110);

        sentence("2 TWICE: by 2 times DEBT and the SUM: neither once nor three times");
        int[] outs = {2, 0, 0, 1, 2, 2, 1};
        tellsInTurn(5, outs);
        x.way(2);
        // By -4 -4 -4 12 at the sixth clock, by -9 3 -1 7 at the seventh.
        int[] bits = {0b0011, 0, 0, 0b0100, 0b1100, 0b1001, 0b1000};
        for (int i = 0; i < outs.length; i++) {
            is("next " + i, x.next(outs[i]), bits[i]);
            x.clocks(1);
        }

        sentence("2 TWICE: none, all");
        tellsInTurn(4, 0, 3);
        x.way(2);
        x.clocks(8);
        for (int i = 0; i < 3; i++) {
            statesOfElement(i, 0, 0);
            is("on", x.element(i, 1), 4);
        }

        sentence("both put to -1,000,000 to 1,000,000");
        // About 4 of 15, then all 15, for long, so that sums run away.
        x.loop(0, 1, 154, 16, 60000, false);
        x.source(2, -1087, 2335, 747);
        x.way(2);
        int atLeast = 0;
        int atMost = 0;
        for (int i = 0; i < 100; i++) {
            x.clocks(400);
            for (int element = 0; element < 15 && i % 20 == 19; element++) {
                int sum = x.element(element, 3);
                is("not farther", Math.abs(sum) > 1000000 || Math.abs(x.element(element, 2)) > 1000000 ? 1 : 0, 0);
                atLeast += sum == -1000000 ? 1 : 0;
                atMost += sum == 1000000 ? 1 : 0;
            }
        }
        is("some at the least", Math.min(1, atLeast), 1);
        is("some at the most", Math.min(1, atMost), 1);
    }

    private static void statesOfElement(int element, int debt, int sum) {
        is("debt of " + element, x.element(element, 2), debt);
        is("sum of debts of " + element, x.element(element, 3), sum);
    }

    // ---- COMB

    private static void comb() {
        sentence("(1, 1, 32, 0 at first)");
        alwaysTelling(2, 4);
        x.clocks(2);
        toldIs(3, 2, 2);
        is("ratio to the power of order is 1", x.need(127), 8);
        no("order", x.combed(1), 5);
        NoiseShaper other = new NoiseShaper();
        x = new NoiseShaper();
        other.comb(1, 1, 32, 0);
        x.clocks(400);
        other.clocks(400);
        same("as told so", picture(x), picture(other));

        sentence("Each r-th CLOCK since it BEGAN");
        for (int ratio = 1; ratio <= 16; ratio++) {
            x = new NoiseShaper();
            x.clocks(1);
            x.comb(1, ratio, 32, 0);
            if (ratio > 1) {
                x.clocks(ratio - 1);
            }
            is("one clock less", x.told(3), 0);
            x.clocks(1);
            is("the clock", x.told(3), 1);
            x.clocks(2 * ratio - 1);
            is("one clock less than three times", x.told(3), 2);
            x.clocks(1);
            is("three times", x.told(3), 3);
        }

        sentence("less what that was as this was done last (0 at first)");
        alwaysTelling(1, 2);
        // Of ones: what is told first has not as many ahead of it as there will be.
        x.comb(3, 2, 32, 0);
        x.clocks(8);
        toldIs(3, 4, 8, 8, 8);
        x.comb(5, 1, 32, 0);
        x.clocks(4);
        toldIs(3, 1, 1, 1, 1);

        sentence("All is kept as the lowest WIDTH bits with their sign: SUMS");
        for (int width = 8; width <= 16; width++) {
            x = new NoiseShaper();
            alwaysTelling(1, 2);
            x.comb(1, 16, width, 0);
            int half = 1 << (width - 1);
            manyClocks(half / 100);
            x.clocks(half % 100 - 1);
            is("as much as there can be", x.combed(0), half - 1);
            x.clocks(1);
            is("one more", x.combed(0), -half);
            x.clocks(100);
            is("wide enough, though its sums went round", x.wrong(0), 0);
            is("wide enough", x.latest(3, 0), 16);
        }

        sentence("All is kept as the lowest WIDTH bits with their sign: 32 bits");
        alwaysTelling(1, 2);
        x.comb(5, 16, 32, 0);
        for (int n = 16; n <= 1600; n += 16) {
            x.clocks(16);
            // The fifth sum of ones is (n + 4) over 5.
            BigInteger sum = BigInteger.ONE;
            for (int i = 0; i < 5; i++) {
                sum = sum.multiply(BigInteger.valueOf(n + i));
            }
            is("fifth sum behind " + n, x.combed(4), sum.divide(BigInteger.valueOf(120)).intValue());
        }
        is("exact", x.latest(3, 0), 1 << 20);
        is("none wrong", x.wrong(0), 0);

        sentence("All is kept as the lowest WIDTH bits with their sign: what is told");
        alwaysTelling(1, 2);
        int[][] rows = {{23, 11, 1023}, {24, 11, -1024}, {24, 12, 1024}, {0, 8, -24}, {23, 10, -1}, {24, 10, 0}};
        for (int[] row : rows) {
            x.deviation(0, row[0]);
            x.comb(1, 1, row[1], 1);
            x.clocks(1);
            toldIs(3, row[2]);
            is("how many wrong", x.wrong(0), row[2] == 1000 + row[0] ? 0 : 1);
            is("by how much", x.wrong(1), 1000 + row[0] - row[2]);
        }
    }

    private static void trueNumbers() {
        sentence("TRUE is the same without end to the bits");
        for (int i = 0; i < 16; i++) {
            x.deviation(i, 99);
        }
        alwaysTelling(16, 17);
        for (int width : new int[] {8, 31, 32}) {
            x.comb(5, 16, width, 1);
            for (int i = 0; i < 20; i++) {
                x.clocks(400);
            }
            long due = 16L * 1099 << 20;
            int spare = 64 - width;
            is("in " + width + " bits", x.latest(3, 0), due << spare >> spare);
            is("true less it", x.wrong(1), due - (due << spare >> spare));
            // Of 500 each; in 8 bits the first are right or wrong as their lowest bits are.
            is("told", x.told(3), 500);
        }

        sentence("that come out exact if they are wide enough");
        for (int order = 1; order <= 5; order++) {
            x = new NoiseShaper();
            alwaysTelling(1, 2);
            x.deviation(0, 24);
            for (int ratio = 1; ratio <= 16; ratio++) {
                int width = x.comb(order, ratio, 32, 1);
                if (width != NoiseShaper.NONE) {
                    x.comb(order, ratio, width, 1);
                    x.clocks(400);
                    is("just wide enough", x.wrong(0), 0);
                    x.comb(order, ratio, width - 1, 1);
                    x.clocks(400);
                    is("one bit less", Math.min(1, x.wrong(0)), 1);
                }
            }
        }
    }

    // ---- FOLD

    private static void folds() {
        sentence("3: seven that are TOLD, SHIFT TOLD (0 to 12) (all 0 at first)");
        alwaysTelling(1, 2);
        x.folds(1, 3, 0, 0);
        x.clocks(16);
        toldIs(4, 0, 0, 0, 0, 0, 0, 0, 0);
        is("no work", x.work(0, 0) + x.work(0, 1), 0);
        is("shift", x.half(3, 2), 0);

        sentence("the first four, then the third, second, first of these again");
        tellsInTurn(2, 1, 0, 0, 0, 0, 0, 0, 0, 0, 0, 0, 0, 0, 0, 0, 0);
        x.taps(1, 20, 300, 7, 0);
        x.folds(1, 3, 0, 0);
        x.clocks(8);
        toldIs(4, 20, 7, 20, 0);
        x.clocks(7);
        // The 1 of clock 16 is the second number now, so that it meets each other tap.
        x.anew(4);
        x.clocks(10);
        toldIs(4, 1, 300, 300, 1, 0);

        sentence("At each second number that comes");
        alwaysTelling(1, 2);
        x.folds(1, 0, 0, 0);
        x.clocks(1);
        is("one", x.told(4), 0);
        x.clocks(1);
        is("two", x.told(4), 1);
        x.clocks(1);
        is("three", x.told(4), 1);

        sentence("(0 ahead of the first)");
        alwaysTelling(1, 2);
        x.comb(1, 1, 32, 1);
        // 1,000 each: 3 and 4 of them by 4; -1, 24, 33, 32 by 32; 3, -22, 384, 534, 509, 512 by 512.
        long[][] rows = {{750, 1000}, {-32, 750, 1031, 1000}, {5, -43, 750, 1042, 994, 1000}};
        for (int taps = 0; taps < 3; taps++) {
            x.folds(1, taps, 0, 0);
            x.clocks(2 * rows[taps].length);
            toldIs(4, rows[taps]);
        }
    }

    private static void foldsAtTheirEnds() {
        sentence("by 2 to the power of SHIFT, downwards");
        for (int shift = 0; shift <= 12; shift++) {
            x = new NoiseShaper();
            alwaysTelling(1, 2);
            x.comb(1, 1, 32, 1);
            x.folds(1, 3, 0, 0);
            for (int tap : new int[] {-999, -4, -1, 0, 1, 4, 999}) {
                x.taps(tap, 0, 0, 0, shift);
                x.clocks(2);
                toldIs(4, Math.floorDiv(1000 * tap, 1 << shift));
            }
        }

        sentence("that is told (its lowest 32 bits)");
        // The comb tells 2 to the power of 30.
        alwaysTelling(1, 2);
        x.deviation(0, 24);
        x.comb(5, 16, 32, 1);
        x.folds(1, 3, 0, 0);
        int[][] rows = {{1, 0}, {2, 0}, {2, 1}, {3, 0}, {4, 0}, {4, 1}, {4, 2}, {-1, 0}, {-2, 0}, {-3, 0}, {-3, 1},
            {999, 0}, {999, 10}, {999, 12}, {-999, 9}};
        for (int[] row : rows) {
            x.taps(0, 0, 0, row[0], row[1]);
            x.clocks(400);
            is("tap " + row[0] + " shift " + row[1], x.latest(4, 0), (int) (((long) row[0] << 30) >> row[1]));
        }

        sentence("PLAIN: one for each TAP that is not 0; FOLDED: one for each two, one for the midst");
        x.folds(1, 3, 0, 0);
        int[][] taps = {{0, 0, 0, 0, 0, 0}, {0, 0, 0, 1, 1, 1}, {0, 0, 1, 0, 2, 1}, {1, 0, 0, 1, 3, 2},
            {1, 1, 1, 0, 6, 3}, {-1, -1, -1, -1, 7, 4}};
        for (int[] row : taps) {
            x.taps(row[0], row[1], row[2], row[3], 0);
            is("nothing told", x.work(0, 0) + x.work(0, 1), 0);
            x.clocks(1);
            is("nothing told", x.work(0, 0) + x.work(0, 1), 0);
            x.clocks(5);
            is("plain", x.work(0, 0), 3 * row[4]);
            is("folded", x.work(0, 1), 3 * row[5]);
        }
    }

    // ---- ==== 2.

    private static void gapDriftSpread() {
        sentence("GAP: of all CLOCKS since the LOOP BEGAN; DRIFT, SPREAD: since ELEMENTS BEGAN: none yet");
        zeros("a new object");
        x.source(0, 30, 0, 1);
        alwaysTelling(1, 4);
        x.source(0, -90, 0, 1);
        x.deviation(0, 5);
        x.clocks(5);
        // Outs of 1: 10 less each.
        is("gap", x.gap(0, 0), -50);
        is("drift", x.sum(4), 5 * (3 * 1005 - 3005));
        is("spread", x.spread(), 5);
        is("elements alone", x.anew(2), 5);
        is("gap stays", x.gap(0, 0), -50);
        is("drift", x.sum(4), 0);
        is("spread", x.spread(), 0);
        x.clocks(3);
        x.anew(1);
        zeros("a loop that began anew");

        sentence("SPREAD: how often that was ON that was ON most, less that was ON least: of those that there are");
        alwaysTelling(16, 17);
        x.clocks(9);
        is("all alike", x.spread(), 0);
        alwaysTelling(3, 4);
        x.clocks(9);
        is("all alike", x.spread(), 0);
        alwaysTelling(1, 2);
        x.clocks(9);
        is("one alone", x.spread(), 0);
    }

    private static void zeros(String of) {
        is("gap of " + of, x.gap(0, 0), 0);
        is("greatest gap of " + of, x.gap(1, 0), 0);
        is("spread of " + of, x.spread(), 0);
        for (int what = 0; what < 6; what++) {
            is("sum " + what + " of " + of, x.sum(what), 0);
        }
    }

    private static void latest() {
        sentence("LATEST: the latest 48 numbers of a STAGE since it BEGAN");
        x.source(1, 0, 1, 1000);
        int clocks = 0;
        for (int n : new int[] {1, 2, 47, 48, 49, 63, 64, 65, 95, 96, 97, 140}) {
            x.clocks(n - clocks);
            clocks = n;
            int kept = Math.min(48, n);
            is("the latest of " + n, x.latest(0, 0), n - 1);
            is("the eldest of " + n, x.latest(0, kept - 1), n - kept);
            no("one more of " + n, x.latest(0, kept), 5);
            is("the least of " + n, x.range(0, 0), n - kept);
            is("all told of " + n, x.told(0), n);
        }
        x.anew(0);
        no("none", x.latest(0, 0), 5);
        x.clocks(1);
        toldIs(0, 140);

        sentence("LATEST: the latest 48 numbers of a STAGE: of a FOLD");
        alwaysTelling(1, 2);
        x.folds(3, 0, 0, 0);
        x.clocks(376);
        is("47", x.told(6), 47);
        is("the eldest", x.latest(6, 46), 0);
        no("one more", x.latest(6, 47), 5);
        x.clocks(8);
        is("the eldest", x.latest(6, 47), 0);
        no("one more", x.latest(6, 48), 5);
        x.clocks(8);
        is("the eldest went", x.latest(6, 47), 1);
        no("one more", x.latest(6, 48), 5);
    }

    private static void beat() {
        sentence("BEAT: of the latest n (all of LATEST) with sum S, of all that have such, together");
        int[] turn = {-5, 2, 9};
        for (int many = 1; many <= 50; many++) {
            x = new NoiseShaper();
            x.source(1, -5, 7, 3);
            x.clocks(many);
            int n = Math.min(48, many);
            long sum = 0;
            for (int t = many - n; t < many; t++) {
                sum += turn[t % 3];
            }
            for (int lag = 0; lag < n; lag++) {
                long due = 0;
                for (int t = many - n + lag; t < many; t++) {
                    due += (n * turn[t % 3] - sum) * (n * turn[(t - lag) % 3] - sum);
                }
                is("lag " + lag + " of " + many, x.beat(0, lag), due);
            }
            if (n < 48) {
                no("lag " + n + " of " + many, x.beat(0, n), 5);
            }
        }
        no("lag 48", x.beat(0, 48), 1);

        sentence("BEAT: of numbers as far apart as they can be");
        x.source(2, 30000, -30000, 1);
        x.clocks(48);
        is("lag 0", x.beat(0, 0), 48L * (48L * 30000) * (48L * 30000));
        is("lag 47", x.beat(0, 47), -(48L * 30000) * (48L * 30000));
    }

    private static void toneComesRound() {
        sentence("for 1,000 CLOCKS: it COMES ROUND, if behind a CLOCK all that it has is as it was");
        x.loop(0, 1, 5000, 2, 60000, false);
        is("a lead of 0", x.tone(10, 0), 0);
        is("a period of 1,000", x.tone(10, 1), 1000);
        // Errors go on by 1,002 of 2,002.
        x.loop(0, 1, 1001, 2, 60000, false);
        no("a period of 1,001", x.tone(1, 1), 5);
        x.loop(1, 1, 999, 2, 60000, false);
        is("a lead of 1", x.tone(1, 0), 1);
        is("and a period of 999", x.tone(1, 1), 999);
        x.loop(1, 1, 5000, 2, 60000, false);
        no("a lead of 1 and a period of 1,000", x.tone(10, 1), 5);
        is("its outs are told all the same", x.out(10, 999) + x.out(10, 998), 1);

        sentence("(or at first). LEAD: how many CLOCKS till it was so first");
        // An error of 0 always; one that is held at once; one that is held at the fourth clock.
        is("lead 0", x.tone(100, 0), 0);
        is("period 1", x.tone(100, 1), 1);
        x.loop(0, 1, 100, 2, 30, false);
        is("lead 1", x.tone(150, 0), 1);
        is("period 1", x.tone(150, 1), 1);
        x.loop(0, 1, 100, 2, 200, false);
        is("errors of 50, 100, 150, 200 and that", x.tone(150, 0), 4);
        is("period 1", x.tone(150, 1), 1);
        x.loop(0, 1, 100, 2, 199, true);
        is("errors of 50, 100, 150, and 0", x.tone(150, 0), 0);
        is("period 4", x.tone(150, 1), 4);

        sentence("TONE of a number u (-30,000 to 30,000)");
        x.loop(0, 1, 100, 2, 60000, false);
        is("errors of 29,900, 59,800, 60,000", x.tone(30000, 0), 3);
        is("errors of -29,900, -59,800, -60,000", x.tone(-30000, 0), 3);
        is("all 1", x.tone(30000, 2), 1);
        is("all 0", x.tone(-30000, 2), 0);

        sentence("the LOOP as told, all 0, without DITHER, the SOURCE always u");
        x.source(2, 77, -13, 2);
        x.dither(5000, 99);
        x.clocks(77);
        is("lead", x.tone(50, 0), 0);
        is("period", x.tone(50, 1), 4);
        is("outs", x.out(50, 0) * 8 + x.out(50, 1) * 4 + x.out(50, 2) * 2 + x.out(50, 3), 0b1011);
        is("told", x.told(1), 77);
    }

    private static void toneOfAllThatItHas() {
        sentence("all that it has (ERRORS; SUMS and VALUE)");
        // An error of 0 behind each clock, as at first: the value that was told does not count.
        is("errors alone", x.tone(100, 0), 0);
        // Calm, and hit at each clock: a sum of 0 behind it, as at first, but a value of 100.
        x.loop(1, 1, 100, 2, 30, true);
        is("a value, too", x.tone(150, 0), 1);
        is("period", x.tone(150, 1), 1);

        sentence("of KIND 2 what each told, too, as far as it is asked for: of the second 1, of the third 2, of the fourth 3");
        // Calm, and hit at each clock: errors of 0 behind it. Each gets 350, 250, 150 and tells 1, at first 0.
        for (int order = 1; order <= 4; order++) {
            x.loop(2, order, 100, 2, 350, true);
            is("lead of order " + order, x.tone(30000, 0), order - 1);
            is("period of order " + order, x.tone(30000, 1), 1);
        }
    }

    private static void asked() {
        sentence("ASKED: the latest 12 numbers of which a TONE was asked by tone()");
        for (int i = 0; i < 30; i++) {
            x.tone(100 * i - 500, i % 6);
            int many = Math.min(12, i + 1);
            is("how many", x.state(13), many);
            is("the first", x.asked(0), 100 * (i + 1 - many) - 500);
            is("the last", x.asked(many - 1), 100 * i - 500);
            no("one more", x.asked(many), 5);
        }

        sentence("in the order as they were asked first (asked again it stays there)");
        for (int u = 0; u < 12; u++) {
            x.tone(u, 0);
        }
        for (int u : new int[] {11, 0, 5, 0}) {
            x.tone(u, 1);
            for (int i = 0; i < 12; i++) {
                is("stays", x.asked(i), i);
            }
        }

        sentence("the eldest goes as a 13th comes");
        for (int u = 0; u < 13; u++) {
            x.tone(u, 0);
        }
        is("the eldest", x.asked(0), 1);
        x.tone(0, 0);
        is("one that went comes last", x.asked(11), 0);
        is("the eldest", x.asked(0), 2);
        is("not by out", x.out(777, 0), 1);
        is("not by idle", x.idle(100, 1, 1000, 1), 100);
        is("the last", x.asked(11), 0);

        sentence("The LOOP told anew: none");
        x.tone(1, 0);
        x.source(0, 1, 0, 1);
        x.dither(1, 1);
        x.anew(1);
        is("it began anew alone", x.state(13), 1);
        x.loop(0, 1, 100, 2, 0, false);
        is("refused", x.state(13), 1);
        x.loop(0, 1, 100, 2, 60000, false);
        is("told, though as it was", x.state(13), 0);
        no("none", x.asked(0), 5);
    }
}
