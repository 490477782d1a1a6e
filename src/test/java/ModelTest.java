import java.math.BigInteger;
import java.util.ArrayList;
import java.util.Arrays;
import java.util.HashMap;
import java.util.List;
import java.util.Map;
import java.util.Random;

/**
 * Long runs of drawn calls, each answer held against a second writing of the document that keeps
 * all that was ever told and tries everything out, so that it shares no short cut with the class.
 */
public final class ModelTest {
    private static final int RUNS = 400;
    private static final int CALLS = 512;
    private static final String[] NAMES = {
        "source", "sample", "loop", "dither", "way", "deviation", "comb", "taps", "folds", "anew", "clocks",
        "told", "latest", "state", "sum", "gap", "range", "steady", "element", "spread", "combed", "wrong", "work",
        "need", "response", "half", "beat", "tonal", "tone", "out", "asked", "idle",
        "next", "ahead", "strain", "calmed"};
    private static final int[] ARGUMENTS = {
        4, 2, 6, 2, 1, 2, 4, 5, 4, 1, 1,
        1, 2, 1, 1, 2, 2, 2, 2, 0, 1, 1, 2,
        1, 1, 2, 2, 1, 2, 2, 1, 4,
        1, 3, 2, 2};

    private static int wrong;

    public static void main(String[] args) {
        for (int run = 0; run < RUNS && wrong == 0; run++) {
            oneRun(run);
        }
        debtsAtTheirLimits();
        longRun(0, 4, 5, 1, 32, 1);
        longRun(1, 2, 5, 16, 31, 0);
        longRun(2, 3, 4, 3, 8, 1);
        System.out.println(wrong == 0 ? "all answers are as the model's" : wrong + " answers are not as the model's");
        if (wrong != 0) {
            System.exit(1);
        }
    }

    private static void oneRun(int run) {
        Random random = new Random(run);
        NoiseShaper x = new NoiseShaper();
        Model model = new Model();
        List<String> calls = new ArrayList<>();
        int toneCalls = 0;
        // What is answered behind so many calls is free, and status() is one, too.
        for (int i = 0; i < CALLS - 1 && wrong == 0; i++) {
            int name = random.nextInt(3) == 0 ? random.nextInt(11) : random.nextInt(NAMES.length);
            if (random.nextInt(8) == 0) {
                name = 10;
            }
            // The model tries every number and limit out: a few of the dearest calls a run are enough.
            if (NAMES[name].equals("idle") && toneCalls++ > 3) {
                continue;
            }
            int[] drawn = drawArguments(NAMES[name], ARGUMENTS[name], random, model);
            String call = NAMES[name] + Arrays.toString(drawn);
            calls.add(call);
            long got = callClass(x, NAMES[name], drawn);
            long want = model.call(NAMES[name], drawn);
            boolean asksStatus = got == NoiseShaper.NONE || random.nextInt(4) == 0;
            i += asksStatus ? 1 : 0;
            if (got != want || asksStatus && x.status() != model.status) {
                wrong++;
                System.out.println("run " + run + ", call " + i + ": " + call + " answered " + got + " with status "
                        + x.status() + ", due is " + want + " with status " + model.status);
                System.out.println("behind " + calls);
            }
        }
    }

    /** Debts run up too slowly for drawn calls to bring them to their limits. */
    private static void debtsAtTheirLimits() {
        NoiseShaper x = new NoiseShaper();
        Model model = new Model();
        same(x, model, "loop", 2, 1, 154, 16, 60000, 0);
        same(x, model, "source", 2, -1087, 2335, 747);
        same(x, model, "way", 2);
        for (int i = 0; i < 120; i++) {
            same(x, model, "clocks", 400);
            for (int element = 0; element < 15 && i % 10 == 9; element++) {
                same(x, model, "element", element, 2);
                same(x, model, "element", element, 3);
            }
        }
        same(x, model, "sum", 4);
        same(x, model, "spread");
    }

    /** As many CLOCKS as an object can have: the sums of the comb run over 64 bits, and it is to be TRUE all the same. */
    private static void longRun(int kind, int order, int combOrder, int ratio, int width, int in) {
        NoiseShaper x = new NoiseShaper();
        Model model = new Model();
        same(x, model, "source", 1, -700, 3, 500);
        same(x, model, "loop", kind, order, 900, 3, 5000, 1);
        same(x, model, "dither", 300, 77);
        // Not rotated: the model reckons the POINTER from all that was ever ON, each time.
        same(x, model, "way", kind == 1 ? 0 : 2);
        same(x, model, "comb", combOrder, ratio, width, in);
        same(x, model, "taps", -50, 0, 300, 512, 10);
        same(x, model, "folds", 3, 3, 1, 2);
        for (int i = 0; i < 450; i++) {
            same(x, model, "clocks", 400);
        }
        for (int i = 0; i < 14; i++) {
            same(x, model, "state", i);
        }
        for (int i = 0; i < 6; i++) {
            same(x, model, "sum", i);
            same(x, model, "latest", i + 1, 0);
        }
        for (int i = 0; i < 5; i++) {
            same(x, model, "combed", i);
        }
        same(x, model, "wrong", 0);
        same(x, model, "wrong", 1);
        same(x, model, "work", 2, 1);
        same(x, model, "gap", 1, 1);
        same(x, model, "spread");
    }

    private static void same(NoiseShaper x, Model model, String name, int... a) {
        long got = callClass(x, name, a);
        long want = model.call(name, a);
        if (got != want) {
            wrong++;
            System.out.println(name + Arrays.toString(a) + " answered " + got + ", due is " + want);
        }
    }

    // ---- what is drawn

    private static int[] drawArguments(String name, int many, Random random, Model model) {
        int[] drawn = new int[many];
        int[][] bounds = boundsOf(name, model);
        for (int i = 0; i < many; i++) {
            drawn[i] = drawBetween(bounds[i][0], bounds[i][1], random);
        }
        if (name.equals("loop") && random.nextInt(4) != 0) {
            drawn[1] = 1 + random.nextInt(4);
            drawn[3] = drawn[0] == 2 ? 2 + random.nextInt(1 + 16 / ((1 << drawn[1]) - 1)) : 2 + random.nextInt(16);
            drawn[2] = 1 + random.nextInt(random.nextBoolean() ? 30 : 3000);
            drawn[4] = 1 + random.nextInt(random.nextBoolean() ? 500 : 60000);
        }
        return drawn;
    }

    private static int drawBetween(int least, int most, Random random) {
        switch (random.nextInt(40)) {
            case 0: return least - 1;
            case 1: return most + 1;
            case 2: return least;
            case 3: return most;
            case 4: return new int[] {Integer.MIN_VALUE, Integer.MAX_VALUE, -1, 0}[random.nextInt(4)];
            default: return (int) (least + (long) (random.nextDouble() * ((long) most - least + 1)));
        }
    }

    private static int[][] boundsOf(String name, Model model) {
        int[] number = {-30000, 30000};
        int[] small = {-400, 400};
        int[] stage = {0, 6};
        switch (name) {
            case "source": return new int[][] {{0, 3}, small, number, {1, 1000}};
            case "sample": return new int[][] {{0, 15}, {-31000, 31000}};
            case "loop": return new int[][] {{0, 2}, {1, 4}, {1, 5000}, {2, 17}, {1, 60000}, {0, 1}};
            case "dither": return new int[][] {{0, 5000}, {0, 2147483646}};
            case "way": return new int[][] {{0, 2}};
            case "deviation": return new int[][] {{0, 15}, {-99, 99}};
            case "comb": return new int[][] {{1, 5}, {1, 16}, {8, 32}, {0, 1}};
            case "taps": return new int[][] {{-999, 999}, {-2, 2}, {-999, 999}, {-999, 999}, {0, 12}};
            case "folds": return new int[][] {{0, 3}, {0, 3}, {0, 3}, {0, 3}};
            case "clocks": return new int[][] {{1, 400}};
            case "latest": return new int[][] {stage, {0, 48}};
            case "state": return new int[][] {{0, 13}};
            case "sum": return new int[][] {{0, 5}};
            case "gap": return new int[][] {{0, 2}, {1, 48}};
            case "range": return new int[][] {stage, {0, 2}};
            case "steady": return new int[][] {stage, {0, 3000}};
            case "element": return new int[][] {{0, model.manyElements() - 1}, {0, 4}};
            case "combed": return new int[][] {{0, 4}};
            case "wrong": return new int[][] {{0, 1}};
            case "work": return new int[][] {{0, 2}, {0, 1}};
            case "need": return new int[][] {{0, 100000}};
            case "response": return new int[][] {{0, model.combOrder * (model.combRatio - 1)}};
            case "half": return new int[][] {{0, 3}, {0, 3}};
            case "beat": return new int[][] {{0, 2}, {0, 47}};
            case "tonal": return new int[][] {{0, 2}};
            case "tone": return new int[][] {small, {0, 5}};
            case "out": return new int[][] {small, {0, 999}};
            case "asked": return new int[][] {{0, 12}};
            case "idle": return new int[][] {small, {1, 60}, {1, 1000}, {0, 1}};
            case "next": return new int[][] {{0, model.manyElements()}};
            case "ahead": return new int[][] {{1, 200}, {0, 2}, {0, 2}};
            case "strain": return new int[][] {{1, 200}, {1, 3000}};
            case "calmed": return new int[][] {{1, 60}, {1, 400}};
            default: return new int[][] {stage};
        }
    }

    private static long callClass(NoiseShaper x, String name, int[] a) {
        switch (name) {
            case "source": return x.source(a[0], a[1], a[2], a[3]);
            case "sample": return x.sample(a[0], a[1]);
            case "loop": return x.loop(a[0], a[1], a[2], a[3], a[4], a[5] == 1);
            case "dither": return x.dither(a[0], a[1]);
            case "way": return x.way(a[0]);
            case "deviation": return x.deviation(a[0], a[1]);
            case "comb": return x.comb(a[0], a[1], a[2], a[3]);
            case "taps": return x.taps(a[0], a[1], a[2], a[3], a[4]);
            case "folds": return x.folds(a[0], a[1], a[2], a[3]);
            case "anew": return x.anew(a[0]);
            case "clocks": return x.clocks(a[0]);
            case "told": return x.told(a[0]);
            case "latest": return x.latest(a[0], a[1]);
            case "state": return x.state(a[0]);
            case "sum": return x.sum(a[0]);
            case "gap": return x.gap(a[0], a[1]);
            case "range": return x.range(a[0], a[1]);
            case "steady": return x.steady(a[0], a[1]);
            case "element": return x.element(a[0], a[1]);
            case "spread": return x.spread();
            case "combed": return x.combed(a[0]);
            case "wrong": return x.wrong(a[0]);
            case "work": return x.work(a[0], a[1]);
            case "need": return x.need(a[0]);
            case "response": return x.response(a[0]);
            case "half": return x.half(a[0], a[1]);
            case "beat": return x.beat(a[0], a[1]);
            case "tonal": return x.tonal(a[0]);
            case "tone": return x.tone(a[0], a[1]);
            case "out": return x.out(a[0], a[1]);
            case "asked": return x.asked(a[0]);
            case "idle": return x.idle(a[0], a[1], a[2], a[3]);
            case "next": return x.next(a[0]);
            case "ahead": return x.ahead(a[0], a[1], a[2]);
            case "strain": return x.strain(a[0], a[1]);
            case "calmed": return x.calmed(a[0], a[1]);
            default: throw new IllegalStateException(name);
        }
    }

    // ---- the second writing

    /** What a loop has: everything it ever told stays in lists. */
    private static final class LoopState {
        long[] held = new long[4];
        List<List<Long>> smallTold = new ArrayList<>();
        List<Long> sources = new ArrayList<>();
        List<Long> outs = new ArrayList<>();
        List<Long> values = new ArrayList<>();
        long x;
        long hits;
        long hitClocks;
        long lost;

        LoopState(long seed) {
            x = seed;
            for (int i = 0; i < 4; i++) {
                smallTold.add(new ArrayList<>());
            }
        }

        LoopState copy() {
            LoopState other = new LoopState(x);
            other.held = held.clone();
            for (int i = 0; i < 4; i++) {
                other.smallTold.get(i).addAll(smallTold.get(i));
            }
            other.sources.addAll(sources);
            other.outs.addAll(outs);
            other.values.addAll(values);
            return other;
        }

        long toldAgo(int i, int ago) {
            List<Long> told = smallTold.get(i);
            return told.size() > ago ? told.get(told.size() - 1 - ago) : 0;
        }

        long lastValue() {
            return values.isEmpty() ? 0 : values.get(values.size() - 1);
        }
    }

    /** What elements have: the sets of those that were on, and the outs that asked for them. */
    private static final class ElementState {
        List<List<Integer>> sets = new ArrayList<>();
        List<Long> drifts = new ArrayList<>();
        long[] debts = new long[16];
        long[] debtSums = new long[16];
        long analogSum;

        long used(int element) {
            return sets.stream().filter(set -> set.contains(element)).count();
        }

        long drift() {
            return drifts.isEmpty() ? 0 : drifts.get(drifts.size() - 1);
        }
    }

    private static final class Model {
        int status;
        private int clock;
        private int[] source = {0, 0, 0, 1};
        private final long[] samples = new long[16];
        private int kind;
        private int order = 1;
        private long step = 100;
        private int levels = 2;
        private long limit = 60000;
        private boolean calm;
        private int dither;
        private int seed;
        private LoopState loop = new LoopState(0);
        private int way;
        private final int[] deviations = new int[16];
        private ElementState elements = new ElementState();
        private int combOrder = 1;
        private int combRatio = 1;
        private int combWidth = 32;
        private int combIn;
        private BigInteger[][] combSums;
        private BigInteger[][] combBefore;
        private int combClocks;
        private BigInteger combTrue;
        private int combWrongs;
        private int manyFolds;
        private int[] foldTaps = new int[3];
        private final int[][] taps = {{1, 2, 1}, {-1, 0, 9, 16, 9, 0, -1},
            {3, 0, -25, 0, 150, 256, 150, 0, -25, 0, 3}, {0, 0, 0, 0, 0, 0, 0}};
        private final int[] shifts = {2, 5, 9, 0};
        private final List<List<Long>> foldIns = new ArrayList<>();
        private final List<List<Long>> told = new ArrayList<>();
        private final List<Integer> asked = new ArrayList<>();

        Model() {
            for (int i = 0; i < 7; i++) {
                told.add(new ArrayList<>());
            }
            for (int i = 0; i < 3; i++) {
                foldIns.add(new ArrayList<>());
            }
            begin(0);
        }

        int manyElements() {
            return kind == 2 ? (levels - 1) * ((1 << order) - 1) : levels - 1;
        }

        private void begin(int stage) {
            for (int i = stage; i < 7; i++) {
                told.get(i).clear();
            }
            if (stage <= 1) {
                loop = new LoopState(seed);
            }
            if (stage <= 2) {
                elements = new ElementState();
            }
            if (stage <= 3) {
                combSums = new BigInteger[2][5];
                combBefore = new BigInteger[2][5];
                for (int i = 0; i < 2; i++) {
                    Arrays.fill(combSums[i], BigInteger.ZERO);
                    Arrays.fill(combBefore[i], BigInteger.ZERO);
                }
                combClocks = 0;
                combTrue = null;
                combWrongs = 0;
            }
            for (int i = Math.max(0, stage - 4); i < 3; i++) {
                foldIns.get(i).clear();
            }
        }

        // ---- the stages

        private long sourceAt(int t) {
            long number;
            if (source[0] == 0) {
                number = source[1];
            } else if (source[0] == 1) {
                number = source[1] + (long) source[2] * (t % source[3]);
            } else if (source[0] == 2) {
                number = t % (2 * source[3]) < source[3] ? source[1] : source[2];
            } else {
                number = samples[t % 16];
            }
            return number > 30000 ? 30000 : number < -30000 ? -30000 : number;
        }

        private long smallValue(long y) {
            return step * (2 * y + 1 - levels);
        }

        private long tell(long w) {
            long best = 0;
            for (long y = 1; y < levels; y++) {
                if (Math.abs(w - smallValue(y)) < Math.abs(w - smallValue(best))) {
                    best = y;
                }
            }
            return best;
        }

        private long hold(LoopState at, long number, long most) {
            if (Math.abs(number) <= most) {
                return number;
            }
            long held = number > 0 ? most : -most;
            at.hits++;
            at.lost += number - held;
            return held;
        }

        private long advance(LoopState at, long u, long most, int ditherNow) {
            long hitsBefore = at.hits;
            long d = 0;
            if (ditherNow > 0) {
                at.x = BigInteger.valueOf(at.x).multiply(BigInteger.valueOf(1103515245L))
                        .add(BigInteger.valueOf(12345)).mod(BigInteger.valueOf(2147483648L)).longValue();
                d = at.x / 65536 % (2 * ditherNow + 1) - ditherNow;
            }
            long y;
            long value;
            if (kind == 0) {
                long[][] shares = {{1}, {2, -1}, {3, -3, 1}, {4, -6, 4, -1}};
                long w = u;
                for (int i = 0; i < order; i++) {
                    w += shares[order - 1][i] * at.held[i];
                }
                y = tell(w + d);
                value = smallValue(y);
                long error = hold(at, w - value, most);
                for (int i = 3; i > 0; i--) {
                    at.held[i] = i < order ? at.held[i - 1] : 0;
                }
                at.held[0] = error;
            } else if (kind == 1) {
                long last = at.lastValue();
                at.held[0] = hold(at, at.held[0] + u - last, most);
                for (int i = 1; i < order; i++) {
                    at.held[i] = hold(at, at.held[i] + at.held[i - 1] - last, most);
                }
                y = tell(at.held[order - 1] + d);
                value = smallValue(y);
            } else {
                for (int i = 0; i < order; i++) {
                    long w = (i == 0 ? u : at.held[i - 1]) + at.held[i];
                    long small = tell(i == 0 ? w + d : w);
                    at.held[i] = hold(at, w - smallValue(small), most);
                    at.smallTold.get(i).add(small);
                }
                long besides = (levels - 1L) * ((1L << (order - 1)) - 1);
                y = besides + at.toldAgo(0, 0);
                y += order > 1 ? at.toldAgo(1, 0) - at.toldAgo(1, 1) : 0;
                y += order > 2 ? at.toldAgo(2, 0) - 2 * at.toldAgo(2, 1) + at.toldAgo(2, 2) : 0;
                y += order > 3 ? at.toldAgo(3, 0) - 3 * at.toldAgo(3, 1) + 3 * at.toldAgo(3, 2) - at.toldAgo(3, 3) : 0;
                value = step * (2 * y + 1 - levels - 2 * besides);
            }
            if (at.hits > hitsBefore) {
                at.hitClocks++;
                if (calm) {
                    at.held = new long[4];
                }
            }
            at.sources.add(u);
            at.outs.add(y);
            at.values.add(value);
            return y;
        }

        private List<Integer> choose(ElementState at, int wayNow, long y) {
            int many = manyElements();
            List<Integer> all = new ArrayList<>();
            int first = wayNow == 1 ? pointer(at, wayNow) : 0;
            for (int i = 0; i < many; i++) {
                all.add((first + i) % many);
            }
            if (wayNow == 2) {
                all.sort((a, b) -> {
                    int byDebt = Long.compare(2 * at.debts[b] + at.debtSums[b], 2 * at.debts[a] + at.debtSums[a]);
                    return byDebt != 0 ? byDebt : Integer.compare(a, b);
                });
            }
            return all.subList(0, (int) y);
        }

        private int pointer(ElementState at, int wayNow) {
            int together = 0;
            for (List<Integer> set : at.sets) {
                together += set.size();
            }
            return wayNow == 1 ? together % manyElements() : 0;
        }

        private long take(ElementState at, int wayNow, long y) {
            List<Integer> on = new ArrayList<>(choose(at, wayNow, y));
            int many = manyElements();
            long analog = 0;
            long all = 0;
            for (int i = 0; i < many; i++) {
                analog += on.contains(i) ? 1000 + deviations[i] : 0;
                all += 1000 + deviations[i];
                if (wayNow == 2) {
                    at.debts[i] = bound(at.debts[i] + y - (on.contains(i) ? many : 0));
                    at.debtSums[i] = bound(at.debtSums[i] + at.debts[i]);
                }
            }
            at.drifts.add(at.drift() + many * analog - y * all);
            at.sets.add(on);
            at.analogSum += analog;
            return analog;
        }

        private static long bound(long v) {
            return Math.max(-1000000, Math.min(1000000, v));
        }

        private long spread(ElementState at) {
            long most = Long.MIN_VALUE;
            long least = Long.MAX_VALUE;
            for (int i = 0; i < manyElements(); i++) {
                most = Math.max(most, at.used(i));
                least = Math.min(least, at.used(i));
            }
            return most - least;
        }

        private BigInteger narrow(BigInteger v, int bits) {
            BigInteger all = BigInteger.ONE.shiftLeft(bits);
            BigInteger low = v.mod(all);
            return low.testBit(bits - 1) ? low.subtract(all) : low;
        }

        private BigInteger comb(int which, long in, boolean tells) {
            BigInteger carried = BigInteger.valueOf(in);
            for (int i = 0; i < combOrder; i++) {
                combSums[which][i] = cut(which, combSums[which][i].add(carried));
                carried = combSums[which][i];
            }
            if (tells) {
                for (int i = 0; i < combOrder; i++) {
                    BigInteger was = combBefore[which][i];
                    combBefore[which][i] = carried;
                    carried = cut(which, carried.subtract(was));
                }
            }
            return carried;
        }

        private BigInteger cut(int which, BigInteger v) {
            return which == 0 ? narrow(v, combWidth) : v;
        }

        private void oneClock() {
            long u = sourceAt(clock);
            told.get(0).add(u);
            long y = advance(loop, u, limit, dither);
            told.get(1).add(y);
            long analog = take(elements, way, y);
            told.get(2).add(analog);
            combClocks++;
            boolean tells = combClocks % combRatio == 0;
            BigInteger number = comb(0, combIn == 0 ? y : analog, tells);
            BigInteger truth = comb(1, combIn == 0 ? y : analog, tells);
            if (tells) {
                combTrue = truth;
                combWrongs += number.equals(truth) ? 0 : 1;
                told.get(3).add(number.longValue());
                fold(0, number.longValue());
            }
            clock++;
        }

        private void fold(int i, long number) {
            if (i >= manyFolds) {
                return;
            }
            List<Long> ins = foldIns.get(i);
            ins.add(number);
            if (ins.size() % 2 == 0) {
                int[] row = taps[foldTaps[i]];
                long together = 0;
                for (int j = 0; j < row.length && j < ins.size(); j++) {
                    together += row[j] * ins.get(ins.size() - 1 - j);
                }
                long number2 = (int) Math.floorDiv(together, 1L << shifts[foldTaps[i]]);
                told.get(4 + i).add(number2);
                fold(i + 1, number2);
            }
        }

        // ---- tones

        private final List<Integer> pattern = new ArrayList<>();
        private int lead;

        private List<Long> all(LoopState at) {
            List<Long> all = new ArrayList<>();
            for (int i = 0; i < order; i++) {
                all.add(at.held[i]);
                for (int ago = 0; ago < i && kind == 2; ago++) {
                    all.add(at.toldAgo(i, ago));
                }
            }
            if (kind == 1) {
                all.add(at.lastValue());
            }
            return all;
        }

        private boolean tone(int u) {
            LoopState at = new LoopState(0);
            Map<List<Long>, Integer> seen = new HashMap<>();
            seen.put(all(at), 0);
            for (int t = 1; t <= 1000; t++) {
                advance(at, u, limit, 0);
                Integer before = seen.putIfAbsent(all(at), t);
                if (before != null) {
                    lead = before;
                    pattern.clear();
                    for (int i = before; i < t; i++) {
                        pattern.add(at.outs.get(i).intValue());
                    }
                    return true;
                }
            }
            return false;
        }

        private long ofPattern(int what) {
            int n = pattern.size();
            int changes = 0;
            int longest = 0;
            for (int i = 0; i < n; i++) {
                changes += pattern.get(i).equals(pattern.get((i + 1) % n)) ? 0 : 1;
                int run = 0;
                while (run < n && pattern.get((i + run) % n).equals(pattern.get(i))) {
                    run++;
                }
                longest = Math.max(longest, run);
            }
            switch (what) {
                case 0: return lead;
                case 1: return n;
                case 2: return pattern.stream().mapToInt(i -> i).sum();
                case 3: return pattern.stream().distinct().count();
                case 4: return changes;
                default: return longest;
            }
        }

        private int hitClocks(int many, int most) {
            LoopState at = loop.copy();
            for (int i = 0; i < many; i++) {
                advance(at, sourceAt(clock + i), most, dither);
            }
            return (int) at.hitClocks;
        }

        // ---- the calls

        private long no(int why) {
            status = why;
            return -1;
        }

        private static boolean in(int v, int least, int most) {
            return least <= v && v <= most;
        }

        private static boolean number(int v) {
            return in(v, -30000, 30000);
        }

        private List<Long> latest(int stage) {
            List<Long> row = told.get(stage);
            List<Long> back = new ArrayList<>();
            for (int i = row.size() - 1; i >= 0 && back.size() < 48; i--) {
                back.add(row.get(i));
            }
            return back;
        }

        private static long together(List<Long> row) {
            long together = 0;
            for (long v : row) {
                together += v;
            }
            return together;
        }

        long call(String name, int[] a) {
            status = 0;
            switch (name) {
                case "source": case "sample": case "loop": case "dither": case "way": case "deviation":
                    return tellAhead(name, a);
                case "comb": case "taps": case "folds": case "anew": case "clocks":
                    return tellBehind(name, a);
                case "told": case "latest": case "state": case "sum": case "gap": case "range": case "steady":
                    return ask(name, a);
                case "element": case "spread": case "combed": case "wrong": case "work":
                    return askParts(name, a);
                case "need": case "response": case "half": case "beat": case "tonal":
                    return reckon(name, a);
                case "tone": case "out": case "asked": case "idle":
                    return reckonTones(name, a);
                default:
                    return onPaper(name, a);
            }
        }

        private long tellAhead(String name, int[] a) {
            long was;
            switch (name) {
                case "source":
                    if (!in(a[0], 0, 3) || !number(a[1]) || !number(a[2]) || !in(a[3], 1, 1000)) {
                        return no(1);
                    }
                    source = a.clone();
                    begin(0);
                    return clock;
                case "sample":
                    if (!in(a[0], 0, 15)) {
                        return no(1);
                    }
                    was = samples[a[0]];
                    samples[a[0]] = a[1];
                    return was;
                case "loop":
                    if (!in(a[0], 0, 2) || !in(a[1], 1, 4) || !in(a[2], 1, 5000) || !in(a[3], 2, 17)
                            || !in(a[4], 1, 60000) || a[0] == 2 && (a[3] - 1) * ((1 << a[1]) - 1) > 16) {
                        return no(1);
                    }
                    kind = a[0];
                    order = a[1];
                    step = a[2];
                    levels = a[3];
                    limit = a[4];
                    calm = a[5] == 1;
                    asked.clear();
                    begin(1);
                    return manyElements();
                case "dither":
                    if (!in(a[0], 0, 5000) || a[1] < 0) {
                        return no(1);
                    }
                    dither = a[0];
                    seed = a[1];
                    begin(1);
                    return clock;
                case "way":
                    if (!in(a[0], 0, 2)) {
                        return no(1);
                    }
                    was = way;
                    way = a[0];
                    begin(2);
                    return was;
                default:
                    if (!in(a[1], -99, 99)) {
                        return no(1);
                    }
                    if (!in(a[0], 0, 15)) {
                        return no(2);
                    }
                    was = deviations[a[0]];
                    deviations[a[0]] = a[1];
                    begin(2);
                    return was;
            }
        }

        private long width(long most) {
            BigInteger greatest = BigInteger.valueOf(combRatio).pow(combOrder).multiply(BigInteger.valueOf(most));
            for (int bits = 8; bits <= 32; bits++) {
                if (greatest.compareTo(BigInteger.TWO.pow(bits - 1)) < 0) {
                    return bits;
                }
            }
            return -1;
        }

        private long tellBehind(String name, int[] a) {
            switch (name) {
                case "comb":
                    if (!in(a[0], 1, 5) || !in(a[1], 1, 16) || !in(a[2], 8, 32) || !in(a[3], 0, 1)) {
                        return no(1);
                    }
                    combOrder = a[0];
                    combRatio = a[1];
                    combWidth = a[2];
                    combIn = a[3];
                    begin(3);
                    long most = 0;
                    for (int i = 0; i < manyElements(); i++) {
                        most += combIn == 0 ? 1 : 1000 + deviations[i];
                    }
                    return width(most);
                case "taps":
                    for (int i = 0; i < 4; i++) {
                        if (!in(a[i], -999, 999)) {
                            return no(1);
                        }
                    }
                    if (!in(a[4], 0, 12)) {
                        return no(1);
                    }
                    taps[3] = new int[] {a[0], a[1], a[2], a[3], a[2], a[1], a[0]};
                    shifts[3] = a[4];
                    begin(4);
                    return Arrays.stream(taps[3]).sum();
                case "folds":
                    if (!in(a[0], 0, 3) || !in(a[1], 0, 3) || !in(a[2], 0, 3) || !in(a[3], 0, 3)) {
                        return no(1);
                    }
                    manyFolds = a[0];
                    foldTaps = new int[] {a[1], a[2], a[3]};
                    begin(4);
                    return new int[] {1, 2, 4, 8}[manyFolds];
                case "anew":
                    if (!in(a[0], 0, 6)) {
                        return no(2);
                    }
                    begin(a[0]);
                    return clock;
                default:
                    if (!in(a[0], 1, 400)) {
                        return no(1);
                    }
                    for (int i = 0; i < a[0]; i++) {
                        oneClock();
                    }
                    return clock;
            }
        }

        private long ask(String name, int[] a) {
            if (name.equals("state")) {
                return in(a[0], 0, 13) ? stateOf(a[0]) : no(1);
            }
            if (name.equals("sum")) {
                long[] sums = {together(loop.sources), together(loop.values), together(loop.outs), loop.lost,
                    elements.drift(), elements.analogSum};
                return in(a[0], 0, 5) ? sums[a[0]] : no(1);
            }
            if (name.equals("gap")) {
                return gap(a[0], a[1]);
            }
            if (name.equals("latest") && a[1] < 0 || name.equals("range") && !in(a[1], 0, 2)
                    || name.equals("steady") && !in(a[1], 0, 30000)) {
                return no(1);
            }
            if (!in(a[0], 0, 6)) {
                return no(2);
            }
            List<Long> row = latest(a[0]);
            if (name.equals("told")) {
                return told.get(a[0]).size();
            }
            if (name.equals("latest")) {
                return a[1] < row.size() ? row.get(a[1]) : no(5);
            }
            if (row.isEmpty()) {
                return no(5);
            }
            if (name.equals("range")) {
                long[] answers = {row.stream().min(Long::compare).get(), row.stream().max(Long::compare).get(),
                    together(row)};
                return answers[a[1]];
            }
            int many = 0;
            for (long v : row) {
                if (Math.abs(v - row.get(0)) > a[1]) {
                    break;
                }
                many++;
            }
            return many;
        }

        private long stateOf(int what) {
            if (what < 4) {
                return loop.held[what];
            }
            long[] others = {loop.lastValue(), loop.x, pointer(elements, way), loop.hits, loop.hitClocks,
                manyElements(), way, clock, manyFolds, asked.size()};
            return others[what - 4];
        }

        private long gap(int what, int n) {
            if (!in(what, 0, 2) || what == 2 && !in(n, 1, 48)) {
                return no(1);
            }
            long greatest = 0;
            long gap = 0;
            int size = loop.values.size();
            if (what < 2) {
                for (int i = 0; i < size; i++) {
                    gap += loop.values.get(i) - loop.sources.get(i);
                    greatest = Math.max(greatest, Math.abs(gap));
                }
                return what == 0 ? gap : greatest;
            }
            if (Math.min(48, size) < n) {
                return no(5);
            }
            for (int i = Math.max(0, size - 48); i + n <= size; i++) {
                gap = together(loop.values.subList(i, i + n)) - together(loop.sources.subList(i, i + n));
                greatest = Math.max(greatest, Math.abs(gap));
            }
            return greatest;
        }

        private long askParts(String name, int[] a) {
            switch (name) {
                case "spread":
                    return spread(elements);
                case "element":
                    if (!in(a[1], 0, 4)) {
                        return no(1);
                    }
                    if (!in(a[0], 0, manyElements() - 1)) {
                        return no(2);
                    }
                    int last = elements.sets.size() - 1;
                    boolean on = last >= 0 && elements.sets.get(last).contains(a[0]);
                    long[] answers = {1000 + deviations[a[0]], elements.used(a[0]), elements.debts[a[0]],
                        elements.debtSums[a[0]], on ? 1 : 0};
                    return answers[a[1]];
                case "combed":
                    if (!in(a[0], 0, 4)) {
                        return no(1);
                    }
                    return a[0] < combOrder ? combSums[0][a[0]].longValueExact() : no(5);
                case "wrong":
                    if (!in(a[0], 0, 1)) {
                        return no(1);
                    }
                    if (a[0] == 0) {
                        return combWrongs;
                    }
                    return combTrue == null ? no(5)
                            : combTrue.subtract(BigInteger.valueOf(latest(3).get(0))).longValueExact();
                default:
                    if (!in(a[1], 0, 1)) {
                        return no(1);
                    }
                    if (!in(a[0], 0, manyFolds - 1)) {
                        return no(2);
                    }
                    int[] row = taps[foldTaps[a[0]]];
                    int plain = 0;
                    int folded = 0;
                    for (int i = 0; i < row.length; i++) {
                        plain += row[i] != 0 ? 1 : 0;
                        folded += row[i] != 0 && i >= row.length - 1 - i ? 1 : 0;
                    }
                    return (long) (a[1] == 0 ? plain : folded) * told.get(4 + a[0]).size();
            }
        }

        private long beatOf(int stage, int lag) {
            List<Long> row = latest(stage);
            long n = row.size();
            long beat = 0;
            for (int i = 0; i + lag < n; i++) {
                beat += (n * row.get(i) - together(row)) * (n * row.get(i + lag) - together(row));
            }
            return beat;
        }

        private long reckon(String name, int[] a) {
            switch (name) {
                case "need":
                    if (!in(a[0], 0, 100000)) {
                        return no(1);
                    }
                    return width(a[0]) < 0 ? no(5) : width(a[0]);
                case "response":
                    if (a[0] < 0) {
                        return no(1);
                    }
                    long[] answers = {1};
                    for (int i = 0; i < combOrder; i++) {
                        long[] longer = new long[answers.length + combRatio - 1];
                        for (int j = 0; j < answers.length * combRatio; j++) {
                            longer[j / combRatio + j % combRatio] += answers[j / combRatio];
                        }
                        answers = longer;
                    }
                    return a[0] < answers.length ? answers[a[0]] : no(5);
                case "half":
                    if (!in(a[0], 0, 3) || !in(a[1], 0, 3)) {
                        return no(1);
                    }
                    int[] row = taps[a[0]];
                    int halfBand = 1;
                    for (int i = row.length / 2 % 2; i < row.length; i += 2) {
                        halfBand = i != row.length / 2 && row[i] != 0 ? 0 : halfBand;
                    }
                    long[] told4 = {Arrays.stream(row).sum(), halfBand, shifts[a[0]],
                        Arrays.stream(row).filter(tap -> tap != 0).count()};
                    return told4[a[1]];
                case "beat":
                    if (!in(a[1], 0, 47)) {
                        return no(1);
                    }
                    if (!in(a[0], 0, 2)) {
                        return no(2);
                    }
                    return latest(a[0]).size() > a[1] ? beatOf(a[0], a[1]) : no(5);
                default:
                    if (!in(a[0], 0, 2)) {
                        return no(2);
                    }
                    if (latest(a[0]).size() <= 24) {
                        return no(5);
                    }
                    int best = 24;
                    for (int lag = 23; lag >= 2; lag--) {
                        best = beatOf(a[0], lag) >= beatOf(a[0], best) ? lag : best;
                    }
                    return best;
            }
        }

        private long reckonTones(String name, int[] a) {
            switch (name) {
                case "tone":
                    if (!number(a[0]) || !in(a[1], 0, 5)) {
                        return no(1);
                    }
                    if (!asked.contains(a[0])) {
                        asked.add(a[0]);
                    }
                    if (asked.size() == 13) {
                        asked.remove(0);
                    }
                    return tone(a[0]) ? ofPattern(a[1]) : no(5);
                case "out":
                    if (!number(a[0]) || !in(a[1], 0, 999)) {
                        return no(1);
                    }
                    LoopState at = new LoopState(0);
                    for (int i = 0; i < 1000; i++) {
                        advance(at, a[0], limit, 0);
                    }
                    return at.outs.get(a[1]);
                case "asked":
                    if (a[0] < 0) {
                        return no(1);
                    }
                    return a[0] < asked.size() ? asked.get(a[0]) : no(5);
                default:
                    if (!number(a[0]) || !in(a[1], 1, 60) || !in(a[2], 1, 1000) || !in(a[3], 0, 1)
                            || !number(a[0] + a[1] - 1)) {
                        return no(1);
                    }
                    Map<Integer, Integer> firstWith = new HashMap<>();
                    int count = 0;
                    for (int u = a[0]; u < a[0] + a[1]; u++) {
                        if (tone(u) && pattern.size() <= a[2]) {
                            count++;
                            firstWith.putIfAbsent(pattern.size(), u);
                        }
                    }
                    if (a[3] == 0) {
                        return count;
                    }
                    return count == 0 ? no(5)
                            : firstWith.get(firstWith.keySet().stream().min(Integer::compare).get());
            }
        }

        private long onPaper(String name, int[] a) {
            switch (name) {
                case "next":
                    if (!in(a[0], 0, manyElements())) {
                        return no(1);
                    }
                    long bits = 0;
                    for (int i : choose(elements, way, a[0])) {
                        bits += 1L << i;
                    }
                    return bits;
                case "ahead":
                    if (!in(a[0], 1, 200) || !in(a[1], 0, 2) || !in(a[2], 0, 2)) {
                        return no(1);
                    }
                    LoopState at = loop.copy();
                    ElementState paper = new ElementState();
                    for (int i = 0; i < a[0]; i++) {
                        take(paper, a[1], advance(at, sourceAt(clock + i), limit, dither));
                    }
                    long greatest = paper.drifts.stream().mapToLong(Math::abs).max().getAsLong();
                    return new long[] {spread(paper), paper.drift(), greatest}[a[2]];
                case "strain":
                    return in(a[0], 1, 200) && in(a[1], 1, 60000) ? hitClocks(a[0], a[1]) : no(1);
                default:
                    if (!in(a[0], 1, 60) || !in(a[1], 1, 400)) {
                        return no(1);
                    }
                    for (int most = 1; most <= a[1]; most++) {
                        if (hitClocks(a[0], most) == 0) {
                            return most;
                        }
                    }
                    return no(5);
            }
        }
    }
}
