import java.util.Arrays;

/** A converter that shapes its noise; ../shared/DOC.md says what each call promises. */
public final class NoiseShaper {
    public static final int NONE = -1;

    private static final int FINE = 0;
    private static final int CANNOT_BE = 1;
    private static final int NO_SUCH = 2;
    private static final int THERE_IS_NONE = 5;

    private static final int SOURCE = 0;
    private static final int LOOP = 1;
    private static final int ELEMENTS = 2;
    private static final int COMB = 3;
    private static final int FIRST_FOLD = 4;
    private static final int STAGES = 7;
    private static final int MOST_FOLDS = 3;

    private static final int MOST_NUMBER = 30000;
    private static final int MOST_LIMIT = 60000;
    private static final int MOST_STEP = 5000;
    private static final int MOST_ELEMENTS = 16;
    private static final int MOST_TAP = 999;

    private int status;
    private int clock;
    private int manyFolds;
    private final Source source = new Source();
    private final Loop loop = new Loop();
    private final Elements elements = new Elements();
    private final Comb comb = new Comb();
    private final Taps taps = new Taps();
    private final Fold[] folds = new Fold[MOST_FOLDS];
    private final Latest[] latest = new Latest[STAGES];
    private final Asked asked = new Asked();
    // What is reckoned on paper has objects of its own, made once, so that no call makes any.
    private final Loop paperLoop = new Loop();
    private final Elements paperElements = new Elements();
    private final Tone tone = new Tone();

    public NoiseShaper() {
        for (int i = 0; i < MOST_FOLDS; i++) {
            folds[i] = new Fold();
        }
        for (int i = 0; i < STAGES; i++) {
            latest[i] = new Latest();
        }
    }

    public int status() {
        return status;
    }

    // ---- what is told

    public int source(int kind, int a, int b, int c) {
        if (!within(kind, 0, 3) || !isNumber(a) || !isNumber(b) || !within(c, 1, 1000)) {
            return refuse(CANNOT_BE);
        }
        source.kind = kind;
        source.a = a;
        source.b = b;
        source.c = c;
        beginAnewFrom(SOURCE);
        return answer(clock);
    }

    public int sample(int i, int v) {
        if (!within(i, 0, Source.SAMPLES - 1)) {
            return refuse(CANNOT_BE);
        }
        int was = source.samples[i];
        source.samples[i] = v;
        return answer(was);
    }

    public int loop(int kind, int order, int step, int levels, int limit, boolean calm) {
        if (!within(kind, 0, 2) || !within(order, 1, LoopPlan.MOST_ORDER) || !within(step, 1, MOST_STEP)
                || !within(levels, 2, MOST_ELEMENTS + 1) || !within(limit, 1, MOST_LIMIT)) {
            return refuse(CANNOT_BE);
        }
        if (LoopPlan.elementsOf(kind, order, levels) > MOST_ELEMENTS) {
            return refuse(CANNOT_BE);
        }
        LoopPlan plan = loop.plan;
        plan.kind = kind;
        plan.order = order;
        plan.step = step;
        plan.levels = levels;
        plan.limit = limit;
        plan.calm = calm;
        elements.many = LoopPlan.elementsOf(kind, order, levels);
        asked.forget();
        beginAnewFrom(LOOP);
        return answer(elements.many);
    }

    public int dither(int d, int seed) {
        if (!within(d, 0, 5000) || seed < 0) {
            return refuse(CANNOT_BE);
        }
        loop.plan.dither = d;
        loop.plan.seed = seed;
        beginAnewFrom(LOOP);
        return answer(clock);
    }

    public int way(int way) {
        if (!within(way, 0, 2)) {
            return refuse(CANNOT_BE);
        }
        int was = elements.way;
        elements.way = way;
        beginAnewFrom(ELEMENTS);
        return answer(was);
    }

    public int deviation(int element, int v) {
        if (!within(v, -99, 99)) {
            return refuse(CANNOT_BE);
        }
        if (!within(element, 0, MOST_ELEMENTS - 1)) {
            return refuse(NO_SUCH);
        }
        int was = elements.deviations[element];
        elements.deviations[element] = v;
        beginAnewFrom(ELEMENTS);
        return answer(was);
    }

    public int comb(int order, int ratio, int width, int in) {
        if (!within(order, 1, Comb.MOST_ORDER) || !within(ratio, 1, Comb.MOST_RATIO)
                || !within(width, Comb.LEAST_WIDTH, Comb.MOST_WIDTH) || !within(in, 0, 1)) {
            return refuse(CANNOT_BE);
        }
        comb.order = order;
        comb.ratio = ratio;
        comb.width = width;
        comb.in = in;
        beginAnewFrom(COMB);
        return answer(comb.leastWidth(in == 0 ? elements.many : elements.allWeights()));
    }

    public int taps(int a, int b, int c, int d, int shift) {
        if (!isTap(a) || !isTap(b) || !isTap(c) || !isTap(d) || !within(shift, 0, 12)) {
            return refuse(CANNOT_BE);
        }
        taps.tell(a, b, c, d, shift);
        beginAnewFrom(FIRST_FOLD);
        return answer(taps.sumOf(Taps.TOLD));
    }

    public int folds(int many, int first, int second, int third) {
        if (!within(many, 0, MOST_FOLDS) || !Taps.isKind(first) || !Taps.isKind(second) || !Taps.isKind(third)) {
            return refuse(CANNOT_BE);
        }
        manyFolds = many;
        folds[0].taps = first;
        folds[1].taps = second;
        folds[2].taps = third;
        beginAnewFrom(FIRST_FOLD);
        return answer(1 << many);
    }

    public int anew(int stage) {
        if (!isStage(stage)) {
            return refuse(NO_SUCH);
        }
        beginAnewFrom(stage);
        return answer(clock);
    }

    public int clocks(int many) {
        if (!within(many, 1, 400)) {
            return refuse(CANNOT_BE);
        }
        for (int i = 0; i < many; i++) {
            oneClock();
        }
        return answer(clock);
    }

    // ---- what there is

    public int told(int stage) {
        if (!isStage(stage)) {
            return refuse(NO_SUCH);
        }
        return answer(latest[stage].count);
    }

    public int latest(int stage, int i) {
        if (i < 0) {
            return refuse(CANNOT_BE);
        }
        if (!isStage(stage)) {
            return refuse(NO_SUCH);
        }
        if (i >= latest[stage].kept) {
            return refuse(THERE_IS_NONE);
        }
        return answer(latest[stage].get(i));
    }

    public int state(int what) {
        if (!within(what, 0, 13)) {
            return refuse(CANNOT_BE);
        }
        if (what < LoopPlan.MOST_ORDER) {
            return answer(loop.states[what]);
        }
        switch (what) {
            case 4: return answer(loop.value);
            case 5: return answer(loop.x);
            case 6: return answer(elements.pointer);
            case 7: return answer(loop.hits);
            case 8: return answer(loop.hitClocks);
            case 9: return answer(elements.many);
            case 10: return answer(elements.way);
            case 11: return answer(clock);
            case 12: return answer(manyFolds);
            default: return answer(asked.many);
        }
    }

    public long sum(int what) {
        switch (what) {
            case 0: return answerLong(loop.sourceSum);
            case 1: return answerLong(loop.valueSum);
            case 2: return answerLong(loop.outSum);
            case 3: return answerLong(loop.lost);
            case 4: return answerLong(elements.drift);
            case 5: return answerLong(elements.analogSum);
            default: return refuse(CANNOT_BE);
        }
    }

    public long gap(int what, int n) {
        // Of what 0 and 1 there is nothing that n could count: there any n is taken.
        if (!within(what, 0, 2) || (what == 2 && !within(n, 1, Latest.MOST))) {
            return refuse(CANNOT_BE);
        }
        if (what == 0) {
            return answerLong(loop.gapNow());
        }
        if (what == 1) {
            return answerLong(loop.greatestGap);
        }
        if (n > keptByLoop()) {
            return refuse(THERE_IS_NONE);
        }
        return answerLong(greatestGapOf(n));
    }

    public long range(int stage, int what) {
        if (!within(what, 0, 2)) {
            return refuse(CANNOT_BE);
        }
        if (!isStage(stage)) {
            return refuse(NO_SUCH);
        }
        Latest row = latest[stage];
        if (row.kept == 0) {
            return refuse(THERE_IS_NONE);
        }
        switch (what) {
            case 0: return answerLong(row.least());
            case 1: return answerLong(row.greatest());
            default: return answerLong(row.total());
        }
    }

    public int steady(int stage, int d) {
        if (!within(d, 0, 30000)) {
            return refuse(CANNOT_BE);
        }
        if (!isStage(stage)) {
            return refuse(NO_SUCH);
        }
        if (latest[stage].kept == 0) {
            return refuse(THERE_IS_NONE);
        }
        return answer(latest[stage].nearLatest(d));
    }

    public int element(int element, int what) {
        if (!within(what, 0, 4)) {
            return refuse(CANNOT_BE);
        }
        if (!within(element, 0, elements.many - 1)) {
            return refuse(NO_SUCH);
        }
        switch (what) {
            case 0: return answer(elements.weight(element));
            case 1: return answer(elements.used[element]);
            case 2: return answer(elements.debts[element]);
            case 3: return answer(elements.debtSums[element]);
            default: return answer((elements.on >> element) & 1);
        }
    }

    public int spread() {
        return answer(elements.unevenness());
    }

    public int combed(int i) {
        if (!within(i, 0, Comb.MOST_ORDER - 1)) {
            return refuse(CANNOT_BE);
        }
        if (i >= comb.order) {
            return refuse(THERE_IS_NONE);
        }
        return answer(comb.cut(comb.sums[i]));
    }

    public long wrong(int what) {
        if (!within(what, 0, 1)) {
            return refuse(CANNOT_BE);
        }
        if (what == 0) {
            return answerLong(comb.wrongs);
        }
        if (latest[COMB].count == 0) {
            return refuse(THERE_IS_NONE);
        }
        return answerLong(comb.truth - comb.number());
    }

    public int work(int fold, int what) {
        if (!within(what, 0, 1)) {
            return refuse(CANNOT_BE);
        }
        if (!within(fold, 0, manyFolds - 1)) {
            return refuse(NO_SUCH);
        }
        int kind = folds[fold].taps;
        int each = what == 0 ? taps.plainOf(kind) : taps.foldedOf(kind);
        return answer(each * latest[FIRST_FOLD + fold].count);
    }

    // ---- what can be reckoned

    public int need(int most) {
        if (!within(most, 0, 100000)) {
            return refuse(CANNOT_BE);
        }
        int width = comb.leastWidth(most);
        return width == NONE ? refuse(THERE_IS_NONE) : answer(width);
    }

    public int response(int i) {
        if (i < 0) {
            return refuse(CANNOT_BE);
        }
        if (i > comb.lastOfResponse()) {
            return refuse(THERE_IS_NONE);
        }
        return answer(comb.responseAt(i));
    }

    public int half(int taps, int what) {
        if (!Taps.isKind(taps) || !within(what, 0, 3)) {
            return refuse(CANNOT_BE);
        }
        switch (what) {
            case 0: return answer(this.taps.sumOf(taps));
            case 1: return answer(this.taps.isHalfBand(taps) ? 1 : 0);
            case 2: return answer(this.taps.shiftOf(taps));
            default: return answer(this.taps.plainOf(taps));
        }
    }

    public long beat(int stage, int lag) {
        if (!within(lag, 0, Latest.MOST - 1)) {
            return refuse(CANNOT_BE);
        }
        if (!within(stage, SOURCE, ELEMENTS)) {
            return refuse(NO_SUCH);
        }
        if (latest[stage].kept <= lag) {
            return refuse(THERE_IS_NONE);
        }
        return answerLong(latest[stage].beatOf(lag));
    }

    public int tonal(int stage) {
        if (!within(stage, SOURCE, ELEMENTS)) {
            return refuse(NO_SUCH);
        }
        if (latest[stage].kept <= 24) {
            return refuse(THERE_IS_NONE);
        }
        return answer(latest[stage].greatestBeat(2, 24));
    }

    public int tone(int u, int what) {
        if (!isNumber(u) || !within(what, 0, 5)) {
            return refuse(CANNOT_BE);
        }
        asked.add(u);
        tone.follow(paperLoop, loop.plan, u);
        if (!tone.comesRound) {
            return refuse(THERE_IS_NONE);
        }
        switch (what) {
            case 0: return answer(tone.lead);
            case 1: return answer(tone.period);
            case 2: return answer(tone.total());
            case 3: return answer(tone.unlike());
            case 4: return answer(tone.changes());
            default: return answer(tone.longestRun());
        }
    }

    public int out(int u, int t) {
        if (!isNumber(u) || !within(t, 0, Tone.CLOCKS - 1)) {
            return refuse(CANNOT_BE);
        }
        paperLoop.beginTone(loop.plan);
        int y = 0;
        for (int i = 0; i <= t; i++) {
            y = paperLoop.advance(u);
        }
        return answer(y);
    }

    public int asked(int i) {
        if (i < 0) {
            return refuse(CANNOT_BE);
        }
        if (i >= asked.many) {
            return refuse(THERE_IS_NONE);
        }
        return answer(asked.numbers[i]);
    }

    public int idle(int u, int many, int most, int what) {
        if (!isNumber(u) || !within(many, 1, 60) || !within(most, 1, Tone.CLOCKS) || !within(what, 0, 1)) {
            return refuse(CANNOT_BE);
        }
        if (!isNumber(u + many - 1)) {
            return refuse(CANNOT_BE);
        }
        int count = 0;
        int leastPeriod = Tone.CLOCKS + 1;
        int worst = u;
        for (int i = 0; i < many; i++) {
            tone.follow(paperLoop, loop.plan, u + i);
            if (tone.comesRound && tone.period <= most) {
                count++;
                if (tone.period < leastPeriod) {
                    leastPeriod = tone.period;
                    worst = u + i;
                }
            }
        }
        if (what == 0) {
            return answer(count);
        }
        return count == 0 ? refuse(THERE_IS_NONE) : answer(worst);
    }

    // ---- on paper

    public int next(int y) {
        if (!within(y, 0, elements.many)) {
            return refuse(CANNOT_BE);
        }
        return answer(elements.choose(y));
    }

    public long ahead(int many, int way, int what) {
        if (!within(many, 1, 200) || !within(way, 0, 2) || !within(what, 0, 2)) {
            return refuse(CANNOT_BE);
        }
        paperLoop.copyFrom(loop);
        paperElements.beginLike(elements, way);
        for (int i = 0; i < many; i++) {
            paperElements.take(paperLoop.advance(source.numberAt(clock + i)));
        }
        switch (what) {
            case 0: return answerLong(paperElements.unevenness());
            case 1: return answerLong(paperElements.drift);
            default: return answerLong(paperElements.greatestDrift);
        }
    }

    public int strain(int many, int limit) {
        if (!within(many, 1, 200) || !within(limit, 1, MOST_LIMIT)) {
            return refuse(CANNOT_BE);
        }
        return answer(hitClocksAhead(many, limit));
    }

    public int calmed(int many, int most) {
        if (!within(many, 1, 60) || !within(most, 1, 400)) {
            return refuse(CANNOT_BE);
        }
        if (hitClocksAhead(many, most) > 0) {
            return refuse(THERE_IS_NONE);
        }
        // Without a HIT no LIMIT has changed anything, so every LIMIT from the greatest held
        // number on goes the same way without one, and every lesser one is HIT by that number.
        return answer(Math.max(1, paperLoop.greatestHeld));
    }

    // ---- helpers

    private int refuse(int why) {
        status = why;
        return NONE;
    }

    private int answer(int number) {
        status = FINE;
        return number;
    }

    private long answerLong(long number) {
        status = FINE;
        return number;
    }

    private static boolean within(int v, int least, int most) {
        return v >= least && v <= most;
    }

    private static boolean isNumber(int v) {
        return within(v, -MOST_NUMBER, MOST_NUMBER);
    }

    private static boolean isTap(int v) {
        return within(v, -MOST_TAP, MOST_TAP);
    }

    private static boolean isStage(int stage) {
        return within(stage, 0, STAGES - 1);
    }

    private static int putTo(int v, int most) {
        if (v > most) {
            return most;
        }
        return v < -most ? -most : v;
    }

    private void beginAnewFrom(int stage) {
        for (int i = stage; i < STAGES; i++) {
            latest[i].clear();
        }
        if (stage <= LOOP) {
            loop.begin();
        }
        if (stage <= ELEMENTS) {
            elements.begin();
        }
        if (stage <= COMB) {
            comb.begin();
        }
        for (int i = 0; i < MOST_FOLDS; i++) {
            if (stage <= FIRST_FOLD + i) {
                folds[i].begin();
            }
        }
    }

    private void oneClock() {
        int u = source.numberAt(clock);
        latest[SOURCE].put(u);
        int y = loop.advance(u);
        latest[LOOP].put(y);
        int analog = elements.take(y);
        latest[ELEMENTS].put(analog);
        if (comb.take(comb.in == 0 ? y : analog)) {
            latest[COMB].put(comb.number());
            handToFolds(comb.number());
        }
        clock++;
    }

    private void handToFolds(int number) {
        int handed = number;
        for (int i = 0; i < manyFolds; i++) {
            if (!folds[i].take(handed)) {
                return;
            }
            handed = folds[i].number(taps);
            latest[FIRST_FOLD + i].put(handed);
        }
    }

    private int keptByLoop() {
        return Math.min(latest[SOURCE].kept, latest[LOOP].kept);
    }

    private long greatestGapOf(int n) {
        long greatest = 0;
        for (int first = 0; first + n <= keptByLoop(); first++) {
            long gap = 0;
            for (int i = first; i < first + n; i++) {
                gap += loop.plan.valueOf(latest[LOOP].get(i)) - latest[SOURCE].get(i);
            }
            greatest = Math.max(greatest, Math.abs(gap));
        }
        return greatest;
    }

    private int hitClocksAhead(int many, int limit) {
        paperLoop.copyFrom(loop);
        paperLoop.plan.limit = limit;
        for (int i = 0; i < many; i++) {
            paperLoop.advance(source.numberAt(clock + i));
        }
        return paperLoop.hitClocks;
    }

    /** The latest 48 numbers of a stage. */
    private static final class Latest {
        static final int MOST = 48;
        // More cells than are kept: a power of 2, so that the mask keeps each index inside.
        private static final int CELLS = 64;
        private static final int MASK = CELLS - 1;

        private final int[] cells = new int[CELLS];
        private int at;
        int kept;
        int count;

        void clear() {
            kept = 0;
            count = 0;
        }

        void put(int number) {
            at = (at + 1) & MASK;
            cells[at] = number;
            kept = Math.min(MOST, kept + 1);
            count++;
        }

        int get(int i) {
            return cells[(at - i) & MASK];
        }

        int least() {
            int least = get(0);
            for (int i = 1; i < kept; i++) {
                least = Math.min(least, get(i));
            }
            return least;
        }

        int greatest() {
            int greatest = get(0);
            for (int i = 1; i < kept; i++) {
                greatest = Math.max(greatest, get(i));
            }
            return greatest;
        }

        long total() {
            long total = 0;
            for (int i = 0; i < kept; i++) {
                total += get(i);
            }
            return total;
        }

        int nearLatest(int d) {
            int many = 0;
            // As long: two numbers of 32 bits can be farther apart than an int tells.
            while (many < kept && Math.abs((long) get(many) - get(0)) <= d) {
                many++;
            }
            return many;
        }

        long beatOf(int lag) {
            long n = kept;
            long total = total();
            long beat = 0;
            for (int i = 0; i + lag < kept; i++) {
                beat += (n * get(i) - total) * (n * get(i + lag) - total);
            }
            return beat;
        }

        int greatestBeat(int leastLag, int mostLag) {
            int best = leastLag;
            long greatest = beatOf(leastLag);
            for (int lag = leastLag + 1; lag <= mostLag; lag++) {
                long beat = beatOf(lag);
                if (beat > greatest) {
                    greatest = beat;
                    best = lag;
                }
            }
            return best;
        }
    }

    private static final class Source {
        static final int SAMPLES = 16;

        int kind;
        int a;
        int b;
        int c = 1;
        final int[] samples = new int[SAMPLES];

        int numberAt(int t) {
            return putTo(numberUnbound(t), MOST_NUMBER);
        }

        private int numberUnbound(int t) {
            switch (kind) {
                case 1: return a + b * Math.floorMod(t, c);
                case 2: return Math.floorMod(t, 2 * c) < c ? a : b;
                case 3: return samples[Math.floorMod(t, SAMPLES)];
                default: return a;
            }
        }
    }

    /** What is told of a loop. */
    private static final class LoopPlan {
        static final int MOST_ORDER = 4;
        static final int ERRORS = 0;
        static final int SUMS = 1;
        static final int CASCADE = 2;

        int kind = ERRORS;
        int order = 1;
        int step = 100;
        int levels = 2;
        int limit = MOST_LIMIT;
        boolean calm;
        int dither;
        int seed;

        void copyFrom(LoopPlan other) {
            kind = other.kind;
            order = other.order;
            step = other.step;
            levels = other.levels;
            limit = other.limit;
            calm = other.calm;
            dither = other.dither;
            seed = other.seed;
        }

        static int elementsOf(int kind, int order, int levels) {
            return kind == CASCADE ? (levels - 1) * ((1 << order) - 1) : levels - 1;
        }

        /** What a cascade adds, so that its out is never below 0. */
        int besides() {
            return kind == CASCADE ? (levels - 1) * ((1 << (order - 1)) - 1) : 0;
        }

        int valueOf(int y) {
            return valueOfSmall(y - besides());
        }

        /** The value of what one small loop of a cascade told. */
        int valueOfSmall(int y) {
            return step * (2 * y + 1 - levels);
        }

        int nearest(int w) {
            // The midst between the values of y and y + 1 is step * (2 y + 2 - levels); it
            // belongs to y, so that y is rounded up.
            int y = -Math.floorDiv(-(w + step * (levels - 2)), 2 * step);
            return Math.max(0, Math.min(levels - 1, y));
        }
    }

    private static final class Loop {
        /** How many words tell all that decides how a loop goes on. */
        static final int WORDS = 10;
        private static final int PAST = WORDS - LoopPlan.MOST_ORDER;
        private static final long LOWEST_31_BITS = 0x7FFFFFFFL;

        final LoopPlan plan = new LoopPlan();
        final int[] states = new int[LoopPlan.MOST_ORDER];
        // What small loops told: 0 the second's last, 1 and 2 the third's last and ahead of
        // that, 3 to 5 the fourth's.
        private final int[] past = new int[PAST];
        int value;
        int x;
        int hits;
        int hitClocks;
        private boolean hit;
        int greatestHeld;
        long sourceSum;
        long valueSum;
        long outSum;
        long lost;
        long greatestGap;

        void begin() {
            Arrays.fill(states, 0);
            Arrays.fill(past, 0);
            value = 0;
            x = plan.seed;
            hits = 0;
            hitClocks = 0;
            greatestHeld = 0;
            sourceSum = 0;
            valueSum = 0;
            outSum = 0;
            lost = 0;
            greatestGap = 0;
        }

        void beginTone(LoopPlan told) {
            plan.copyFrom(told);
            plan.dither = 0;
            begin();
        }

        /** To go on as the other would; the counts and sums of the other are left behind. */
        void copyFrom(Loop other) {
            plan.copyFrom(other.plan);
            begin();
            System.arraycopy(other.states, 0, states, 0, LoopPlan.MOST_ORDER);
            System.arraycopy(other.past, 0, past, 0, PAST);
            value = other.value;
            x = other.x;
        }

        long gapNow() {
            return valueSum - sourceSum;
        }

        int advance(int u) {
            hit = false;
            int y = outOf(u);
            value = plan.valueOf(y);
            if (hit) {
                hitClocks++;
                if (plan.calm) {
                    Arrays.fill(states, 0);
                }
            }
            sourceSum += u;
            valueSum += value;
            outSum += y;
            greatestGap = Math.max(greatestGap, Math.abs(gapNow()));
            return y;
        }

        void writeWords(int[] words, int from) {
            if (from < 0 || from + WORDS > words.length) {
                return;
            }
            System.arraycopy(states, 0, words, from, LoopPlan.MOST_ORDER);
            System.arraycopy(past, 0, words, from + LoopPlan.MOST_ORDER, PAST);
            // Only sums go on by the value, and they have no past that would need its place.
            if (plan.kind == LoopPlan.SUMS) {
                words[from + LoopPlan.MOST_ORDER] = value;
            }
        }

        private int outOf(int u) {
            int dither = drawDither();
            switch (plan.kind) {
                case LoopPlan.SUMS: return outOfSums(u, dither);
                case LoopPlan.CASCADE: return outOfCascade(u, dither);
                default: return outOfErrors(u, dither);
            }
        }

        private int outOfErrors(int u, int dither) {
            int w = u + shapedErrors();
            int y = plan.nearest(w + dither);
            int error = hold(w - plan.valueOf(y));
            for (int i = plan.order - 1; i > 0; i--) {
                states[i] = states[i - 1];
            }
            states[0] = error;
            return y;
        }

        private int shapedErrors() {
            switch (plan.order) {
                case 1: return states[0];
                case 2: return 2 * states[0] - states[1];
                case 3: return 3 * states[0] - 3 * states[1] + states[2];
                default: return 4 * states[0] - 6 * states[1] + 4 * states[2] - states[3];
            }
        }

        private int outOfSums(int u, int dither) {
            int in = u;
            for (int i = 0; i < plan.order; i++) {
                states[i] = hold(states[i] + in - value);
                in = states[i];
            }
            return plan.nearest(in + dither);
        }

        private int outOfCascade(int u, int dither) {
            int in = u;
            int y = plan.besides();
            for (int i = 0; i < plan.order; i++) {
                int w = in + states[i];
                int small = plan.nearest(i == 0 ? w + dither : w);
                states[i] = hold(w - plan.valueOfSmall(small));
                in = states[i];
                y += differenceOf(i, small);
            }
            return y;
        }

        /** What a small loop adds to the out: its out, differenced as often as loops are ahead of it. */
        private int differenceOf(int i, int small) {
            int difference;
            switch (i) {
                case 1:
                    difference = small - past[0];
                    past[0] = small;
                    return difference;
                case 2:
                    difference = small - 2 * past[1] + past[2];
                    past[2] = past[1];
                    past[1] = small;
                    return difference;
                case 3:
                    difference = small - 3 * past[3] + 3 * past[4] - past[5];
                    past[5] = past[4];
                    past[4] = past[3];
                    past[3] = small;
                    return difference;
                default:
                    return small;
            }
        }

        private int hold(int number) {
            int held = putTo(number, plan.limit);
            if (held != number) {
                hit = true;
                hits++;
                lost += number - held;
            }
            greatestHeld = Math.max(greatestHeld, Math.abs(held));
            return held;
        }

        private int drawDither() {
            if (plan.dither == 0) {
                return 0;
            }
            x = (int) ((x * 1103515245L + 12345L) & LOWEST_31_BITS);
            return x / 65536 % (2 * plan.dither + 1) - plan.dither;
        }
    }

    private static final class Elements {
        private static final int MOST_DEBT = 1000000;

        int many = 1;
        int way;
        int pointer;
        int on;
        final int[] deviations = new int[MOST_ELEMENTS];
        final int[] used = new int[MOST_ELEMENTS];
        final int[] debts = new int[MOST_ELEMENTS];
        final int[] debtSums = new int[MOST_ELEMENTS];
        long drift;
        long greatestDrift;
        long analogSum;

        void begin() {
            pointer = 0;
            on = 0;
            Arrays.fill(used, 0);
            Arrays.fill(debts, 0);
            Arrays.fill(debtSums, 0);
            drift = 0;
            greatestDrift = 0;
            analogSum = 0;
        }

        void beginLike(Elements other, int otherWay) {
            many = other.many;
            way = otherWay;
            System.arraycopy(other.deviations, 0, deviations, 0, MOST_ELEMENTS);
            begin();
        }

        int weight(int element) {
            return 1000 + deviations[element];
        }

        int allWeights() {
            return weightsOf((1 << many) - 1);
        }

        int unevenness() {
            int most = used[0];
            int least = used[0];
            for (int i = 1; i < many; i++) {
                most = Math.max(most, used[i]);
                least = Math.min(least, used[i]);
            }
            return most - least;
        }

        /** Puts y elements on and tells their weights together. */
        int take(int y) {
            on = choose(y);
            for (int i = 0; i < many; i++) {
                used[i] += (on >> i) & 1;
            }
            if (way == 1) {
                pointer = (pointer + y) % many;
            }
            if (way == 2) {
                runUpDebts(y);
            }
            int analog = weightsOf(on);
            analogSum += analog;
            drift += (long) many * analog - (long) y * allWeights();
            greatestDrift = Math.max(greatestDrift, Math.abs(drift));
            return analog;
        }

        /** The bits of the y elements that are on next. */
        int choose(int y) {
            switch (way) {
                case 1: return chooseRotated(y);
                case 2: return chooseTwice(y);
                default: return (1 << y) - 1;
            }
        }

        private int chooseRotated(int y) {
            int chosen = 0;
            for (int i = 0; i < y; i++) {
                chosen |= 1 << ((pointer + i) % many);
            }
            return chosen;
        }

        private int chooseTwice(int y) {
            int chosen = 0;
            for (int i = 0; i < y; i++) {
                chosen |= 1 << mostDue(chosen);
            }
            return chosen;
        }

        private int mostDue(int chosen) {
            int best = NONE;
            int greatest = 0;
            for (int i = 0; i < many; i++) {
                int due = 2 * debts[i] + debtSums[i];
                if ((chosen >> i & 1) == 0 && (best == NONE || due > greatest)) {
                    greatest = due;
                    best = i;
                }
            }
            return best;
        }

        private void runUpDebts(int y) {
            for (int i = 0; i < many; i++) {
                int paid = (on >> i & 1) == 1 ? many : 0;
                debts[i] = putTo(debts[i] + y - paid, MOST_DEBT);
                debtSums[i] = putTo(debtSums[i] + debts[i], MOST_DEBT);
            }
        }

        private int weightsOf(int bits) {
            int together = 0;
            for (int i = 0; i < many; i++) {
                if ((bits >> i & 1) == 1) {
                    together += weight(i);
                }
            }
            return together;
        }
    }

    private static final class Comb {
        static final int MOST_ORDER = 5;
        static final int MOST_RATIO = 16;
        static final int LEAST_WIDTH = 8;
        static final int MOST_WIDTH = 32;
        private static final int MOST_RESPONSE = MOST_ORDER * (MOST_RATIO - 1) + 1;

        int order = 1;
        int ratio = 1;
        int width = MOST_WIDTH;
        int in;
        // In 64 bits that wrap: their lowest bits are those of the narrow words, and what is
        // told is TRUE, as it is far below 2 to the power of 63 however far the sums ran.
        final long[] sums = new long[MOST_ORDER];
        private final long[] before = new long[MOST_ORDER];
        private int waited;
        int wrongs;
        long truth;
        private final int[] answers = new int[MOST_RESPONSE];

        void begin() {
            Arrays.fill(sums, 0);
            Arrays.fill(before, 0);
            waited = 0;
            wrongs = 0;
            truth = 0;
        }

        /** Takes a number in; true if one is told. */
        boolean take(int comes) {
            long carried = comes;
            for (int i = 0; i < order; i++) {
                sums[i] += carried;
                carried = sums[i];
            }
            waited++;
            if (waited < ratio) {
                return false;
            }
            waited = 0;
            for (int i = 0; i < order; i++) {
                long was = before[i];
                before[i] = carried;
                carried -= was;
            }
            truth = carried;
            if (number() != truth) {
                wrongs++;
            }
            return true;
        }

        int number() {
            return cut(truth);
        }

        /** The lowest bits of a number, as many as the words have, with their sign. */
        int cut(long number) {
            int spare = 64 - width;
            return (int) (number << spare >> spare);
        }

        int leastWidth(int most) {
            long greatest = most;
            for (int i = 0; i < order; i++) {
                greatest *= ratio;
            }
            for (int bits = LEAST_WIDTH; bits <= MOST_WIDTH; bits++) {
                if (greatest < 1L << (bits - 1)) {
                    return bits;
                }
            }
            return NONE;
        }

        int lastOfResponse() {
            return order * (ratio - 1);
        }

        int responseAt(int wanted) {
            if (wanted < 0 || wanted >= answers.length) {
                return 0;
            }
            Arrays.fill(answers, 0);
            answers[0] = 1;
            for (int i = 0; i < order; i++) {
                foldByOnes();
            }
            return answers[wanted];
        }

        private void foldByOnes() {
            // From behind, as each needs those ahead of it as they were.
            for (int i = answers.length - 1; i >= 0; i--) {
                int together = 0;
                for (int j = 0; j < ratio && j <= i; j++) {
                    together += answers[i - j];
                }
                answers[i] = together;
            }
        }
    }

    /** The four kinds of taps, three that are fixed and one that is told. */
    private static final class Taps {
        static final int TOLD = 3;
        private static final int[] SHORT = {1, 2, 1};
        private static final int[] MIDDLE = {-1, 0, 9, 16, 9, 0, -1};
        private static final int[] LONG = {3, 0, -25, 0, 150, 256, 150, 0, -25, 0, 3};

        private final int[] toldTaps = new int[7];
        private int toldShift;

        static boolean isKind(int kind) {
            return within(kind, 0, TOLD);
        }

        void tell(int a, int b, int c, int d, int shift) {
            toldTaps[0] = a;
            toldTaps[1] = b;
            toldTaps[2] = c;
            toldTaps[3] = d;
            toldTaps[4] = c;
            toldTaps[5] = b;
            toldTaps[6] = a;
            toldShift = shift;
        }

        int[] rowOf(int kind) {
            switch (kind) {
                case 0: return SHORT;
                case 1: return MIDDLE;
                case 2: return LONG;
                default: return toldTaps;
            }
        }

        int shiftOf(int kind) {
            switch (kind) {
                case 0: return 2;
                case 1: return 5;
                case 2: return 9;
                default: return toldShift;
            }
        }

        int sumOf(int kind) {
            int together = 0;
            for (int tap : rowOf(kind)) {
                together += tap;
            }
            return together;
        }

        boolean isHalfBand(int kind) {
            int[] row = rowOf(kind);
            // One side tells of both: all rows are alike round their midst.
            for (int i = row.length / 2 + 2; i < row.length; i += 2) {
                if (row[i] != 0) {
                    return false;
                }
            }
            return true;
        }

        int plainOf(int kind) {
            return manyOf(kind, rowOf(kind).length);
        }

        int foldedOf(int kind) {
            return manyOf(kind, rowOf(kind).length / 2 + 1);
        }

        /** How many of the first taps are not 0. */
        private int manyOf(int kind, int first) {
            int[] row = rowOf(kind);
            int many = 0;
            for (int i = 0; i < first && i < row.length; i++) {
                if (row[i] != 0) {
                    many++;
                }
            }
            return many;
        }
    }

    private static final class Fold {
        // A power of 2 that is not below the longest row of taps, for the mask.
        private static final int CELLS = 16;
        private static final int MASK = CELLS - 1;

        int taps;
        private final int[] cells = new int[CELLS];
        private int at;
        private boolean isSecond;

        void begin() {
            Arrays.fill(cells, 0);
            at = 0;
            isSecond = false;
        }

        /** Takes a number in; true if one is told. */
        boolean take(int comes) {
            at = (at + 1) & MASK;
            cells[at] = comes;
            isSecond = !isSecond;
            return !isSecond;
        }

        int number(Taps all) {
            int[] row = all.rowOf(taps);
            long together = 0;
            for (int i = 0; i < row.length; i++) {
                together += (long) row[i] * cells[(at - i) & MASK];
            }
            return (int) (together >> all.shiftOf(taps));
        }
    }

    /** Follows a loop with a number that stays until it comes round. */
    private static final class Tone {
        static final int CLOCKS = 1000;
        // Twice as many as there can be states, so that the search for a free one is short.
        private static final int CELLS = 2048;

        private final int[] outs = new int[CLOCKS];
        private final int[] states = new int[(CLOCKS + 1) * Loop.WORDS];
        // Of each cell 1 more than the clock whose state stands there; 0: it is free.
        private final int[] cells = new int[CELLS];
        boolean comesRound;
        int lead;
        int period;

        void follow(Loop loop, LoopPlan told, int u) {
            loop.beginTone(told);
            Arrays.fill(cells, 0);
            comesRound = false;
            lead = 0;
            period = 0;
            for (int t = 0; t <= CLOCKS; t++) {
                loop.writeWords(states, t * Loop.WORDS);
                int before = findOrPut(t);
                if (before != NONE) {
                    comesRound = true;
                    lead = before;
                    period = t - before;
                    return;
                }
                if (t < CLOCKS) {
                    outs[t] = loop.advance(u);
                }
            }
        }

        int total() {
            int total = 0;
            for (int i = 0; i < period; i++) {
                total += patternAt(i);
            }
            return total;
        }

        int unlike() {
            int seen = 0;
            for (int i = 0; i < period; i++) {
                seen |= 1 << patternAt(i);
            }
            return Integer.bitCount(seen);
        }

        int changes() {
            int changes = 0;
            for (int i = 0; i < period; i++) {
                if (patternAt(i) != patternAt(i + 1)) {
                    changes++;
                }
            }
            return changes;
        }

        int longestRun() {
            if (changes() == 0) {
                return period;
            }
            int longest = 1;
            int run = 1;
            // Twice round, as the longest run may go over the end.
            for (int i = 1; i < 2 * period; i++) {
                run = patternAt(i) == patternAt(i - 1) ? run + 1 : 1;
                longest = Math.max(longest, run);
            }
            return longest;
        }

        private int patternAt(int i) {
            return period == 0 ? 0 : outs[lead + i % period];
        }

        /** The clock ahead that had the state of clock t, or NONE, and then t is put there. */
        private int findOrPut(int t) {
            int first = cellOf(t);
            for (int i = 0; i < CELLS; i++) {
                int cell = (first + i) & (CELLS - 1);
                if (cells[cell] == 0) {
                    cells[cell] = t + 1;
                    return NONE;
                }
                if (isSame(cells[cell] - 1, t)) {
                    return cells[cell] - 1;
                }
            }
            return NONE;
        }

        private int cellOf(int t) {
            int mixed = 0;
            for (int i = 0; i < Loop.WORDS; i++) {
                mixed = (mixed ^ states[t * Loop.WORDS + i]) * 0x9E3779B1;
                mixed ^= mixed >>> 15;
            }
            return mixed & (CELLS - 1);
        }

        private boolean isSame(int s, int t) {
            for (int i = 0; i < Loop.WORDS; i++) {
                if (states[s * Loop.WORDS + i] != states[t * Loop.WORDS + i]) {
                    return false;
                }
            }
            return true;
        }
    }

    /** The latest 12 numbers of which a tone was asked. */
    private static final class Asked {
        private static final int MOST = 12;

        final int[] numbers = new int[MOST];
        int many;

        void forget() {
            many = 0;
        }

        void add(int u) {
            for (int i = 0; i < many; i++) {
                if (numbers[i] == u) {
                    return;
                }
            }
            if (many == MOST) {
                System.arraycopy(numbers, 1, numbers, 0, MOST - 1);
                many--;
            }
            numbers[many] = u;
            many++;
        }
    }
}
