/** What the tests of edges have in common: numbers far outside, and benches with something in every place. */
final class Edges {
    static final int LEAST = Integer.MIN_VALUE;
    static final int MOST = Integer.MAX_VALUE;
    /** Shifts by these wrap around to small ones, and so do products with the length of a row. */
    static final int[] FAR = {LEAST, LEAST + 1, -64, -32, 32, 33, 64, 1 << 16, 1 << 29, 1 << 30, MOST - 1, MOST};
    /** The weight of one setting if nine parts have 9 of 18 chances. */
    static final long NINES = 387420489L;

    private Edges() {
    }

    static LookBench ofParts(int n) {
        LookBench x = new LookBench();
        x.parts(n);
        return x;
    }

    /** Nine parts, of which k are enough, each good by 9 of 18 chances for a price of 1000. */
    static LookBench greatest(int k) {
        LookBench x = ofParts(9);
        for (int p = 0; p < 9; p++) {
            x.part(p, 9, 9, 1000);
        }
        x.system(x.some(511, 0, 0, k));
        return x;
    }

    /** Three parts, seven rules (the last is the system), part 2 seen, an order of two, a run of two looks. */
    static LookBench stirred() {
        LookBench x = ofParts(3);
        x.part(0, 2, 3, 5);
        x.part(1, 4, 1, 7);
        x.part(2, 3, 6, 11);
        x.single(0);
        x.single(1);
        x.single(2);
        x.row(0, 1);
        x.side(1, 2);
        x.dual(3);
        x.some(7, 0, 0, 2);
        x.system(6);
        x.see(2, 0);
        x.order(1);
        x.order(0);
        x.run(2, 2);
        return x;
    }

    /** As the stirred one, but without a system, an order or a run. */
    static LookBench withoutSystem() {
        LookBench x = ofParts(3);
        x.part(0, 2, 3, 5);
        x.single(0);
        x.single(1);
        x.row(0, 1);
        x.see(1, 1);
        return x;
    }

    /** Forty rules; the last is the system. */
    static LookBench full() {
        LookBench x = ofParts(2);
        for (int i = 0; i < 38; i++) {
            x.single(i % 2);
        }
        x.row(0, 1);
        x.side(0, 1);
        x.system(39);
        x.order(1);
        x.run(0, 0);
        return x;
    }
}
