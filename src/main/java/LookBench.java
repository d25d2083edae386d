/** A bench for looking at parts in turn until one is sure whether a system of them is good. */
public final class LookBench {
    public static final int NONE = -1;

    private static final int OTHER = -2;
    private static final int MOST_PARTS = 9;
    private static final int MOST_RULES = 40;
    private static final int MOST_SETTINGS = 512;

    private static final int BEST = 0;
    private static final int WORST = 1;
    private static final int BY_ORDER = 2;

    private final Shelf shelf;
    private final Rules rules;
    private final Queue queue;
    private final Plans plans;
    private final Bounds bounds;
    private final Trail trail;

    public LookBench() {
        shelf = new Shelf();
        rules = new Rules();
        queue = new Queue();
        plans = new Plans(shelf, rules, queue);
        bounds = new Bounds(shelf, rules);
        trail = new Trail();
    }

    public boolean parts(int n) {
        if (n < 1 || n > MOST_PARTS) {
            return false;
        }
        shelf.lay(n);
        rules.begin(n);
        queue.clear();
        plans.forget();
        return true;
    }

    public boolean part(int p, int g, int f, int price) {
        if (!shelf.has(p) || g < 1 || g > 9 || f < 1 || f > 9 || price < 0 || price > 1000) {
            return false;
        }
        shelf.change(p, g, f, price);
        plans.forget();
        return true;
    }

    public int single(int p) {
        return shelf.has(p) && rules.hasRoom() ? rules.addSingle(p) : NONE;
    }

    public int row(int a, int b) {
        return rules.has(a) && rules.has(b) && rules.hasRoom() ? rules.addRow(a, b) : NONE;
    }

    public int side(int a, int b) {
        return rules.has(a) && rules.has(b) && rules.hasRoom() ? rules.addSide(a, b) : NONE;
    }

    public int some(int set, long worths, int width, int k) {
        if (!shelf.hasSet(set) || worths < 0 || width < 0 || width > 3 || k < 0 || k > 100) {
            return NONE;
        }
        return rules.hasRoom() ? rules.addSome(set, worths, width, k) : NONE;
    }

    public int dual(int a) {
        return rules.has(a) && rules.hasRoom() ? rules.addDual(a) : NONE;
    }

    public boolean system(int rule) {
        if (!rules.has(rule)) {
            return false;
        }
        if (rules.system != rule) {
            rules.system = rule;
            plans.forget();
        }
        return true;
    }

    public int says(int rule, int set) {
        if (!rules.has(rule) || !shelf.hasSet(set)) {
            return NONE;
        }
        return rules.isGood(rule, set) ? 1 : 0;
    }

    public int differ(int a, int b) {
        return rules.has(a) && rules.has(b) ? rules.firstUnlike(a, b) : NONE;
    }

    public int sets(int what) {
        if (what < 0 || what > 1 || !rules.hasSystem()) {
            return NONE;
        }
        return rules.countLeast(what == 0);
    }

    public int set(int what, int i) {
        if (what < 0 || what > 1 || i < 0 || !rules.hasSystem()) {
            return NONE;
        }
        return rules.findLeast(what == 0, i);
    }

    public boolean see(int p, int how) {
        if (!shelf.has(p) || how < NONE || how > 1) {
            return false;
        }
        shelf.note(p, how);
        return true;
    }

    public int partOf(int p, int what) {
        if (!shelf.has(p)) {
            return OTHER;
        }
        switch (what) {
            case 0: return shelf.goods[p];
            case 1: return shelf.bads[p];
            case 2: return shelf.prices[p];
            case 3: return shelf.noted(p);
            default: return OTHER;
        }
    }

    public int sure() {
        return rules.hasSystem() ? rules.verdict(shelf.seenGood, shelf.unseen()) : OTHER;
    }

    public long told(int what) {
        int seen = shelf.seen;
        int good = shelf.seenGood;
        if (what == 0) {
            return shelf.left(seen, good);
        }
        if (!rules.hasSystem()) {
            return OTHER;
        }
        switch (what) {
            case 1: return bounds.goodWeights();
            case 2: return plans.bestMean(seen, good);
            case 3: return plans.next(BEST, seen, good);
            case 4: return plans.worstPrice(seen, good);
            case 5: return plans.next(WORST, seen, good);
            case 6: return bounds.bound();
            case 7: return plans.orderMean();
            case 8: return plans.orderWorst();
            default: return OTHER;
        }
    }

    public long of(int p, int what) {
        if (!shelf.has(p) || shelf.noted(p) != NONE || !rules.hasSystem()) {
            return OTHER;
        }
        switch (what) {
            case 0: return plans.gain(p);
            case 1: return bounds.matters(p);
            default: return OTHER;
        }
    }

    public int order(int p) {
        if (!shelf.has(p) || queue.holds(p)) {
            return NONE;
        }
        queue.append(p);
        return queue.count;
    }

    public int ratios(boolean side, boolean empty) {
        queue.clear();
        if (!empty) {
            queue.fillByRatios(shelf, side);
        }
        return queue.count;
    }

    public int ordered(int i) {
        return i >= 0 && i < queue.count ? queue.row[i] : NONE;
    }

    public int run(int what, int setting) {
        if (what < BEST || what > BY_ORDER || !rules.hasSystem()) {
            return NONE;
        }
        if (!shelf.hasSet(setting) || !shelf.fits(setting)) {
            return NONE;
        }
        return follow(what, setting);
    }

    public int looked(int i) {
        return i >= 0 && i < trail.count ? trail.looks[i] : NONE;
    }

    public int about(int what) {
        switch (what) {
            case 0: return shelf.count;
            case 1: return rules.count;
            case 2: return rules.system;
            case 3: return queue.count;
            case 4: return trail.count;
            default: return NONE;
        }
    }

    private int follow(int plan, int setting) {
        trail.count = 0;
        int seen = shelf.seen;
        int price = 0;
        for (int i = 0; i < shelf.count; i++) {
            int p = plans.next(plan, seen, setting & seen);
            if (p == NONE) {
                break;
            }
            trail.append(p);
            price += shelf.prices[p];
            seen |= 1 << p;
        }
        return price;
    }

    /** The parts, and what was seen of them. */
    private static final class Shelf {
        private final int[] goods = new int[MOST_PARTS];
        private final int[] bads = new int[MOST_PARTS];
        private final int[] prices = new int[MOST_PARTS];
        private int count;
        private int seen;
        private int seenGood;

        Shelf() {
            lay(1);
        }

        void lay(int n) {
            count = n;
            seen = 0;
            seenGood = 0;
            for (int p = 0; p < MOST_PARTS; p++) {
                change(p, 1, 1, 1);
            }
        }

        void change(int p, int g, int f, int price) {
            goods[p] = g;
            bads[p] = f;
            prices[p] = price;
        }

        boolean has(int p) {
            return p >= 0 && p < count;
        }

        boolean hasSet(int set) {
            return set >= 0 && set < 1 << count;
        }

        int unseen() {
            return ((1 << count) - 1) & ~seen;
        }

        /** Whether a setting is as the parts were seen. */
        boolean fits(int setting) {
            return (setting & seen) == seenGood;
        }

        void note(int p, int how) {
            int bit = 1 << p;
            seen = how == NONE ? seen & ~bit : seen | bit;
            seenGood = how == 1 ? seenGood | bit : seenGood & ~bit;
        }

        int noted(int p) {
            if ((seen >> p & 1) == 0) {
                return NONE;
            }
            return seenGood >> p & 1;
        }

        /** The weights, together, of all settings in which the parts looked at are as told. */
        long left(int looked, int good) {
            long product = 1;
            for (int p = 0; p < count; p++) {
                if ((looked >> p & 1) == 0) {
                    product *= goods[p] + bads[p];
                } else {
                    product *= (good >> p & 1) == 1 ? goods[p] : bads[p];
                }
            }
            return product;
        }

        long weight(int setting) {
            return left((1 << count) - 1, setting);
        }

        int priceOfSet(int set) {
            int sum = 0;
            for (int p = 0; p < count; p++) {
                if ((set >> p & 1) == 1) {
                    sum += prices[p];
                }
            }
            return sum;
        }
    }

    /** The rules as tables: one bit for each setting, so that no rule has to be worked out again. */
    private static final class Rules {
        private static final int WORDS = MOST_SETTINGS / 64;

        private final long[] words = new long[MOST_RULES * WORDS];
        private final int[] worth = new int[MOST_PARTS];
        private int parts;
        private int count;
        private int system;

        Rules() {
            begin(1);
        }

        void begin(int n) {
            parts = n;
            count = 0;
            system = NONE;
        }

        boolean has(int rule) {
            return rule >= 0 && rule < count;
        }

        boolean hasRoom() {
            return count < MOST_RULES;
        }

        boolean hasSystem() {
            return has(system);
        }

        boolean isGood(int rule, int setting) {
            return (words[rule * WORDS + (setting >> 6)] >>> (setting & 63) & 1L) != 0;
        }

        boolean isSystemGood(int setting) {
            return isGood(system, setting);
        }

        /** What the system is when some parts are known to be good and some unknown: 1, 0, or NONE. */
        int verdict(int good, int unknown) {
            // More good parts never spoil, so the two outermost settings speak for all between.
            if (isSystemGood(good)) {
                return 1;
            }
            return isSystemGood(good | unknown) ? NONE : 0;
        }

        int addSingle(int p) {
            wipe();
            for (int s = 0; s < 1 << parts; s++) {
                if ((s >> p & 1) == 1) {
                    mark(s);
                }
            }
            return count++;
        }

        int addRow(int a, int b) {
            for (int w = 0; w < WORDS; w++) {
                words[count * WORDS + w] = words[a * WORDS + w] & words[b * WORDS + w];
            }
            return count++;
        }

        int addSide(int a, int b) {
            for (int w = 0; w < WORDS; w++) {
                words[count * WORDS + w] = words[a * WORDS + w] | words[b * WORDS + w];
            }
            return count++;
        }

        int addSome(int set, long worths, int width, int k) {
            shareWorths(set, worths, width);
            wipe();
            for (int s = 0; s < 1 << parts; s++) {
                if (worthOf(s) >= k) {
                    mark(s);
                }
            }
            return count++;
        }

        int addDual(int a) {
            wipe();
            int all = (1 << parts) - 1;
            for (int s = 0; s <= all; s++) {
                if (!isGood(a, all ^ s)) {
                    mark(s);
                }
            }
            return count++;
        }

        int firstUnlike(int a, int b) {
            for (int s = 0; s < 1 << parts; s++) {
                if (isGood(a, s) != isGood(b, s)) {
                    return s;
                }
            }
            return NONE;
        }

        int countLeast(boolean ways) {
            int found = 0;
            for (int s = 0; s < 1 << parts; s++) {
                if (isLeast(ways, s)) {
                    found++;
                }
            }
            return found;
        }

        int findLeast(boolean ways, int i) {
            int found = 0;
            for (int s = 0; s < 1 << parts; s++) {
                if (isLeast(ways, s)) {
                    if (found == i) {
                        return s;
                    }
                    found++;
                }
            }
            return NONE;
        }

        /** Whether a set alone settles the system: good if all in it are good, or bad if all are bad. */
        boolean settles(boolean good, int set) {
            int all = (1 << parts) - 1;
            return good ? isSystemGood(set) : !isSystemGood(all ^ set);
        }

        private boolean isLeast(boolean good, int set) {
            if (!settles(good, set)) {
                return false;
            }
            for (int p = 0; p < parts; p++) {
                if ((set >> p & 1) == 1 && settles(good, set ^ 1 << p)) {
                    return false;
                }
            }
            return true;
        }

        private void wipe() {
            for (int w = 0; w < WORDS; w++) {
                words[count * WORDS + w] = 0;
            }
        }

        private void mark(int setting) {
            words[count * WORDS + (setting >> 6)] |= 1L << (setting & 63);
        }

        /** Only parts of the set take a worth from the number: the least part the lowest bits. */
        private void shareWorths(int set, long worths, int width) {
            long rest = worths;
            long mask = (1L << width) - 1;
            for (int p = 0; p < parts; p++) {
                worth[p] = 0;
                if ((set >> p & 1) == 1) {
                    worth[p] = width == 0 ? 1 : (int) (rest & mask);
                    rest >>>= width;
                }
            }
        }

        private int worthOf(int setting) {
            int sum = 0;
            for (int p = 0; p < parts; p++) {
                if ((setting >> p & 1) == 1) {
                    sum += worth[p];
                }
            }
            return sum;
        }
    }

    /** The order told by hand or by ratios. */
    private static final class Queue {
        private final int[] row = new int[MOST_PARTS];
        private int count;

        void clear() {
            count = 0;
        }

        boolean holds(int p) {
            for (int i = 0; i < count; i++) {
                if (row[i] == p) {
                    return true;
                }
            }
            return false;
        }

        void append(int p) {
            if (count < MOST_PARTS) {
                row[count++] = p;
            }
        }

        void fillByRatios(Shelf shelf, boolean side) {
            for (int p = 0; p < shelf.count; p++) {
                int at = p;
                while (at > 0 && isDearer(shelf, side, row[at - 1], p)) {
                    row[at] = row[at - 1];
                    at--;
                }
                row[at] = p;
            }
            count = shelf.count;
        }

        int firstOutside(int looked, int parts) {
            for (int i = 0; i < count; i++) {
                if ((looked >> row[i] & 1) == 0) {
                    return row[i];
                }
            }
            for (int p = 0; p < parts; p++) {
                if ((looked >> p & 1) == 0) {
                    return p;
                }
            }
            return NONE;
        }

        /** Compared by products, as the quotients themselves need not be whole. */
        private static boolean isDearer(Shelf shelf, boolean side, int a, int b) {
            int[] chances = side ? shelf.goods : shelf.bads;
            int ofA = shelf.prices[a] * (shelf.goods[a] + shelf.bads[a]) * chances[b];
            int ofB = shelf.prices[b] * (shelf.goods[b] + shelf.bads[b]) * chances[a];
            return ofA > ofB;
        }
    }

    /**
     * The plans. A state of what was looked at is a number with a digit of three for each part (0 not looked at,
     * 1 bad, 2 good), so a look always leads to a greater number; what is best in each state is kept until
     * the parts or the system change, as it does not depend on what was seen of them so far.
     */
    private static final class Plans {
        private static final int[] THREES = {1, 3, 9, 27, 81, 243, 729, 2187, 6561, 19683};

        private final Shelf shelf;
        private final Rules rules;
        private final Queue queue;
        private final int[] open = new int[MOST_PARTS];
        private long[] best = new long[0];
        private int[] worst = new int[0];
        private boolean fresh;

        Plans(Shelf shelf, Rules rules, Queue queue) {
            this.shelf = shelf;
            this.rules = rules;
            this.queue = queue;
        }

        void forget() {
            fresh = false;
        }

        long bestMean(int looked, int good) {
            prepare();
            return best[stateOf(looked, good)];
        }

        int worstPrice(int looked, int good) {
            prepare();
            return worst[stateOf(looked, good)];
        }

        long gain(int p) {
            prepare();
            int state = stateOf(shelf.seen, shelf.seenGood);
            return best[state] - best[state + THREES[p]] - best[state + 2 * THREES[p]];
        }

        /** The part that a plan looks at next, NONE if it is sure. */
        int next(int plan, int looked, int good) {
            int unknown = ((1 << shelf.count) - 1) & ~looked;
            if (rules.verdict(good, unknown) != NONE) {
                return NONE;
            }
            if (plan == BY_ORDER) {
                return queue.firstOutside(looked, shelf.count);
            }
            prepare();
            int state = stateOf(looked, good);
            return plan == BEST ? nextOfBest(state, unknown, shelf.left(looked, good)) : nextOfWorst(state, unknown);
        }

        long orderMean() {
            return orderMeanFrom(shelf.seen, shelf.seenGood, 0);
        }

        int orderWorst() {
            return orderWorstFrom(shelf.seen, shelf.seenGood, 0);
        }

        /** Ends, as each look takes one more of at most nine parts, and with all of them looked at it is sure. */
        private long orderMeanFrom(int looked, int good, int paid) {
            int p = next(BY_ORDER, looked, good);
            if (p == NONE) {
                return paid * shelf.left(looked, good);
            }
            int then = looked | 1 << p;
            int sum = paid + shelf.prices[p];
            return orderMeanFrom(then, good | 1 << p, sum) + orderMeanFrom(then, good, sum);
        }

        /** Ends as the mean does. */
        private int orderWorstFrom(int looked, int good, int paid) {
            int p = next(BY_ORDER, looked, good);
            if (p == NONE) {
                return paid;
            }
            int then = looked | 1 << p;
            int sum = paid + shelf.prices[p];
            return Math.max(orderWorstFrom(then, good | 1 << p, sum), orderWorstFrom(then, good, sum));
        }

        private int nextOfBest(int state, int unknown, long left) {
            for (int p = 0; p < shelf.count; p++) {
                if ((unknown >> p & 1) == 1 && meanFrom(p, state, left) == best[state]) {
                    return p;
                }
            }
            return NONE;
        }

        private int nextOfWorst(int state, int unknown) {
            for (int p = 0; p < shelf.count; p++) {
                if ((unknown >> p & 1) == 1 && worstFrom(p, state) == worst[state]) {
                    return p;
                }
            }
            return NONE;
        }

        private long meanFrom(int p, int state, long left) {
            return shelf.prices[p] * left + best[state + THREES[p]] + best[state + 2 * THREES[p]];
        }

        private int worstFrom(int p, int state) {
            return shelf.prices[p] + Math.max(worst[state + THREES[p]], worst[state + 2 * THREES[p]]);
        }

        private int stateOf(int looked, int good) {
            int state = 0;
            for (int p = 0; p < shelf.count; p++) {
                if ((looked >> p & 1) == 1) {
                    state += (good >> p & 1) == 1 ? 2 * THREES[p] : THREES[p];
                }
            }
            return state;
        }

        private void prepare() {
            if (fresh) {
                return;
            }
            int states = THREES[shelf.count];
            if (best.length < states) {
                best = new long[states];
                worst = new int[states];
            }
            int all = (1 << shelf.count) - 1;
            if (rules.verdict(0, all) != NONE) {
                fillSure(0, states);
            } else {
                fill(shelf.count - 1, 0, 0, all, 1, 0);
            }
            fresh = true;
        }

        /**
         * Fills all states that agree with an unsure one above part p, the greatest first, as each needs greater ones.
         * Low and high are the settings with the fewest and the most good parts that the state leaves; a look moves
         * only one of them, so only that one has to be asked whether it makes sure.
         * Part p falls by one with each level, so there are ten levels at most.
         */
        private void fill(int p, int state, int low, int high, long left, int opens) {
            if (p < 0) {
                settle(state, left, opens);
                return;
            }
            int third = THREES[p];
            int good = low | 1 << p;
            if (rules.isSystemGood(good)) {
                fillSure(state + 2 * third, state + 3 * third);
            } else {
                fill(p - 1, state + 2 * third, good, high, left * shelf.goods[p], opens);
            }
            int bad = high & ~(1 << p);
            if (rules.isSystemGood(bad)) {
                fill(p - 1, state + third, low, bad, left * shelf.bads[p], opens);
            } else {
                fillSure(state + third, state + 2 * third);
            }
            open[opens] = p;
            fill(p - 1, state, low, high, left * (shelf.goods[p] + shelf.bads[p]), opens + 1);
        }

        private void fillSure(int from, int to) {
            for (int state = from; state < to; state++) {
                best[state] = 0;
                worst[state] = 0;
            }
        }

        /**
         * Works out one unsure state from those that a look at one of its open parts leads to. It is done for
         * thousands of states in a call, so the rows are taken out of their fields and no method is called.
         */
        private void settle(int state, long left, int opens) {
            long[] means = best;
            int[] greatest = worst;
            int[] prices = shelf.prices;
            long leastMean = Long.MAX_VALUE;
            int leastWorst = Integer.MAX_VALUE;
            for (int i = 0; i < opens; i++) {
                int p = open[i];
                int bad = state + THREES[p];
                int good = bad + THREES[p];
                long mean = prices[p] * left + means[bad] + means[good];
                int most = prices[p] + (greatest[bad] > greatest[good] ? greatest[bad] : greatest[good]);
                leastMean = mean < leastMean ? mean : leastMean;
                leastWorst = most < leastWorst ? most : leastWorst;
            }
            means[state] = leastMean;
            greatest[state] = leastWorst;
        }
    }

    /** Sums over all settings that are as the parts were seen. */
    private static final class Bounds {
        private final Shelf shelf;
        private final Rules rules;
        private final int[] leastPrice = new int[MOST_SETTINGS];

        Bounds(Shelf shelf, Rules rules) {
            this.shelf = shelf;
            this.rules = rules;
        }

        long goodWeights() {
            long sum = 0;
            for (int s = 0; s < 1 << shelf.count; s++) {
                if (shelf.fits(s) && rules.isSystemGood(s)) {
                    sum += shelf.weight(s);
                }
            }
            return sum;
        }

        long matters(int p) {
            long sum = 0;
            for (int s = 0; s < 1 << shelf.count; s++) {
                if (shelf.fits(s) && rules.isSystemGood(s) != rules.isSystemGood(s ^ 1 << p)) {
                    sum += shelf.weight(s);
                }
            }
            return sum;
        }

        long bound() {
            return boundOfSide(true) + boundOfSide(false);
        }

        /** Good settings are proved by good parts alone, others by bad parts alone, as more good parts never spoil. */
        private long boundOfSide(boolean good) {
            long sum = 0;
            int all = (1 << shelf.count) - 1;
            for (int set = 0; set <= all; set++) {
                int setting = good ? set : all ^ set;
                if (shelf.fits(setting) && rules.settles(good, set)) {
                    leastPrice[set] = leastProof(good, set);
                    sum += shelf.weight(setting) * leastPrice[set];
                }
            }
            return sum;
        }

        /** Sets with a part less are lesser numbers, so theirs stand in the table already. */
        private int leastProof(boolean good, int set) {
            int free = set & shelf.unseen();
            int least = shelf.priceOfSet(free);
            for (int p = 0; p < shelf.count; p++) {
                int less = set ^ 1 << p;
                if ((free >> p & 1) == 1 && rules.settles(good, less)) {
                    least = Math.min(least, leastPrice[less]);
                }
            }
            return least;
        }
    }

    /** What the latest run looked at. */
    private static final class Trail {
        private final int[] looks = new int[MOST_PARTS];
        private int count;

        void append(int p) {
            if (count < MOST_PARTS) {
                looks[count++] = p;
            }
        }
    }
}
