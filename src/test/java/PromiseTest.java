/** Each promise of the document by answers worked out by hand: ordinary inputs, edges, wrong inputs. */
public final class PromiseTest {
    private static final int LEAST = Integer.MIN_VALUE;
    private static final int MOST = Integer.MAX_VALUE;
    private static final Checks CHECKS = new Checks();

    public static void main(String[] args) {
        newObject();
        parts();
        part();
        single();
        row();
        side();
        some();
        dual();
        system();
        says();
        differ();
        sets();
        set();
        see();
        partOf();
        sure();
        toldWeights();
        toldBest();
        toldWorst();
        toldBound();
        toldOrder();
        toldGreatest();
        of();
        order();
        ratios();
        ordered();
        run();
        looked();
        about();
        CHECKS.end();
    }

    private static void due(String call, long got, long want) {
        CHECKS.due(call, got, want);
    }

    private static void due(String call, boolean got, boolean want) {
        CHECKS.due(call, got, want);
    }

    /** Two parts: 0 good by 2 of 5 for 5, 1 good by 4 of 5 for 7; rules 0 and 1 are the parts. */
    private static LookBench pair() {
        LookBench x = new LookBench();
        x.parts(2);
        x.part(0, 2, 3, 5);
        x.part(1, 4, 1, 7);
        x.single(0);
        x.single(1);
        return x;
    }

    private static LookBench sidePair() {
        LookBench x = pair();
        x.system(x.side(0, 1));
        return x;
    }

    /** Two of three parts are enough, all chances and prices 1. */
    private static LookBench twoOfThree() {
        LookBench x = new LookBench();
        x.parts(3);
        x.system(x.some(7, 0, 0, 2));
        return x;
    }

    private static void newObject() {
        CHECKS.at("promise 1");
        LookBench x = new LookBench();
        due("NONE", LookBench.NONE, -1);
        due("about(0)", x.about(0), 1);
        due("about(1)", x.about(1), 0);
        due("about(2)", x.about(2), -1);
        due("about(3)", x.about(3), 0);
        due("about(4)", x.about(4), 0);
        due("partOf(0, 0)", x.partOf(0, 0), 1);
        due("partOf(0, 1)", x.partOf(0, 1), 1);
        due("partOf(0, 2)", x.partOf(0, 2), 1);
        due("partOf(0, 3)", x.partOf(0, 3), -1);
        due("partOf(1, 0)", x.partOf(1, 0), -2);
        due("told(0)", x.told(0), 2);
        due("sure()", x.sure(), -2);
        due("ordered(0)", x.ordered(0), -1);
        due("looked(0)", x.looked(0), -1);
        due("says(0, 0)", x.says(0, 0), -1);
        due("single(1)", x.single(1), -1);
        due("single(0)", x.single(0), 0);
        due("says(0, 0)", x.says(0, 0), 0);
        due("says(0, 1)", x.says(0, 1), 1);
        due("says(0, 2)", x.says(0, 2), -1);
        due("some(2, 0, 0, 1)", x.some(2, 0, 0, 1), -1);
        due("dual(0)", x.dual(0), 1);
        due("differ(0, 1)", x.differ(0, 1), -1);
        due("system(1)", x.system(1), true);
        due("sets(1)", x.sets(1), 1);
        due("told(2)", x.told(2), 2);
        due("run(0, 1)", x.run(0, 1), 1);
    }

    private static void parts() {
        CHECKS.at("promise 2");
        LookBench x = sidePair();
        x.see(0, 1);
        x.order(1);
        for (int n : new int[] {0, -1, 10, LEAST, MOST}) {
            due("parts(" + n + ")", x.parts(n), false);
        }
        due("about(0)", x.about(0), 2);
        due("about(1)", x.about(1), 3);
        due("about(2)", x.about(2), 2);
        due("about(3)", x.about(3), 1);
        due("partOf(0, 3)", x.partOf(0, 3), 1);
        due("partOf(1, 2)", x.partOf(1, 2), 7);
        due("parts(2)", x.parts(2), true);
        due("about(1)", x.about(1), 0);
        due("about(2)", x.about(2), -1);
        due("about(3)", x.about(3), 0);
        for (int p = 0; p < 2; p++) {
            due("partOf(p, 0)", x.partOf(p, 0), 1);
            due("partOf(p, 1)", x.partOf(p, 1), 1);
            due("partOf(p, 2)", x.partOf(p, 2), 1);
            due("partOf(p, 3)", x.partOf(p, 3), -1);
        }
        due("system(2)", x.system(2), false);
        due("parts(9)", x.parts(9), true);
        due("told(0)", x.told(0), 512);
        due("parts(1)", x.parts(1), true);
        due("about(0)", x.about(0), 1);
        staleTables();
        neighbours();
    }

    /** What was worked out for other parts and rules must not shine through. */
    private static void staleTables() {
        LookBench x = twoOfThree();
        due("told(2)", x.told(2), 20);
        x.parts(3);
        x.single(0);
        due("says(0, 6)", x.says(0, 6), 0);
        due("says(0, 1)", x.says(0, 1), 1);
        x.system(0);
        due("told(2)", x.told(2), 8);
        due("told(4)", x.told(4), 1);
        x.parts(9);
        x.system(x.some(511, 0, 0, 9));
        due("told(2)", x.told(2), 1022);
        due("told(4)", x.told(4), 9);
    }

    /** With nine parts a rule fills its whole row: what stands beside it must neither be read nor written. */
    private static void neighbours() {
        LookBench x = new LookBench();
        x.parts(9);
        due("some(511, 0, 0, 0)", x.some(511, 0, 0, 0), 0);
        due("some(0, 0, 0, 0)", x.some(0, 0, 0, 0), 1);
        due("single(8)", x.single(8), 2);
        due("some(511, 0, 0, 0)", x.some(511, 0, 0, 0), 3);
        due("differ(0, 1)", x.differ(0, 1), -1);
        due("differ(1, 3)", x.differ(1, 3), -1);
        due("says(2, 0)", x.says(2, 0), 0);
        x.system(2);
        due("told(1)", x.told(1), 256);
        due("told(6)", x.told(6), 512);
        due("of(8, 1)", x.of(8, 1), 512);
        due("of(0, 1)", x.of(0, 1), 0);
        due("sets(0)", x.sets(0), 1);
        due("sets(1)", x.sets(1), 1);
        due("set(0, 1)", x.set(0, 1), -1);
    }

    private static void part() {
        CHECKS.at("promise 3");
        LookBench x = pair();
        due("part(0, 9, 9, 1000)", x.part(0, 9, 9, 1000), true);
        due("partOf(0, 0)", x.partOf(0, 0), 9);
        due("part(0, 1, 1, 0)", x.part(0, 1, 1, 0), true);
        due("partOf(0, 2)", x.partOf(0, 2), 0);
        due("part(0, 2, 3, 4)", x.part(0, 2, 3, 4), true);
        int[][] wrong = {{-1, 1, 1, 1}, {2, 1, 1, 1}, {LEAST, 1, 1, 1}, {MOST, 1, 1, 1}, {0, 0, 1, 1}, {0, 10, 1, 1},
            {0, 1, 0, 1}, {0, 1, 10, 1}, {0, 1, 1, -1}, {0, 1, 1, 1001}, {0, LEAST, 1, 1}, {0, 1, MOST, 1}, {0, 1, 1, LEAST}};
        for (int[] w : wrong) {
            due("part of wrong", x.part(w[0], w[1], w[2], w[3]), false);
        }
        due("partOf(0, 0)", x.partOf(0, 0), 2);
        due("partOf(0, 1)", x.partOf(0, 1), 3);
        due("partOf(0, 2)", x.partOf(0, 2), 4);
        due("partOf(1, 0)", x.partOf(1, 0), 4);
        x.system(0);
        due("told(2)", x.told(2), 100);
        x.see(0, 1);
        x.part(0, 7, 1, 6);
        due("partOf(0, 3)", x.partOf(0, 3), 1);
        due("told(0)", x.told(0), 35);
        x.see(0, -1);
        due("told(2)", x.told(2), 240);
        due("told(4)", x.told(4), 6);
    }

    private static void single() {
        CHECKS.at("promise 4");
        LookBench x = new LookBench();
        x.parts(9);
        for (int p = 0; p < 9; p++) {
            due("single(" + p + ")", x.single(p), p);
            due("says", x.says(p, 1 << p), 1);
            due("says", x.says(p, 511 - (1 << p)), 0);
        }
        for (int p : new int[] {-1, 9, 40, LEAST, MOST}) {
            due("single(" + p + ")", x.single(p), -1);
        }
        for (int i = 9; i < 40; i++) {
            due("single(8)", x.single(8), i);
        }
        due("single(0)", x.single(0), -1);
        due("row(0, 1)", x.row(0, 1), -1);
        due("side(0, 1)", x.side(0, 1), -1);
        due("some(1, 0, 0, 1)", x.some(1, 0, 0, 1), -1);
        due("dual(0)", x.dual(0), -1);
        due("about(1)", x.about(1), 40);
        due("says(39, 256)", x.says(39, 256), 1);
        due("system(39)", x.system(39), true);
        due("system(40)", x.system(40), false);
        for (int kind = 0; kind < 4; kind++) {
            lastRule(kind);
        }
    }

    /** The fortieth rule may be of each kind, and says what it should. */
    private static void lastRule(int kind) {
        LookBench x = new LookBench();
        x.parts(9);
        due("some(511, 0, 0, 0)", x.some(511, 0, 0, 0), 0);
        for (int i = 1; i < 39; i++) {
            due("single(7)", x.single(7), i);
        }
        int made = kind == 0 ? x.row(0, 1) : kind == 1 ? x.side(0, 1) : kind == 2 ? x.some(511, 0, 0, 0) : x.dual(1);
        due("the fortieth of kind " + kind, made, 39);
        due("says(39, 511)", x.says(39, 511), 1);
        due("says(39, 0)", x.says(39, 0), kind == 1 || kind == 2 ? 1 : 0);
        due("system(39)", x.system(39), true);
        due("told(1)", x.told(1), kind == 1 || kind == 2 ? 512 : 256);
        due("sets(0)", x.sets(0), 1);
        due("of(8, 1)", x.of(8, 1), 0);
    }

    private static void row() {
        CHECKS.at("promise 5");
        LookBench x = pair();
        due("row(0, 1)", x.row(0, 1), 2);
        due("row(0, 0)", x.row(0, 0), 3);
        for (int s = 0; s < 4; s++) {
            due("says(2, " + s + ")", x.says(2, s), s == 3 ? 1 : 0);
            due("says(3, " + s + ")", x.says(3, s), s & 1);
        }
        for (int a : new int[] {-1, 4, 40, LEAST, MOST}) {
            due("row(" + a + ", 0)", x.row(a, 0), -1);
            due("row(0, " + a + ")", x.row(0, a), -1);
        }
        due("about(1)", x.about(1), 4);
    }

    private static void side() {
        CHECKS.at("promise 6");
        LookBench x = pair();
        due("side(0, 1)", x.side(0, 1), 2);
        due("side(1, 1)", x.side(1, 1), 3);
        for (int s = 0; s < 4; s++) {
            due("says(2, " + s + ")", x.says(2, s), s == 0 ? 0 : 1);
            due("says(3, " + s + ")", x.says(3, s), s >> 1);
        }
        for (int a : new int[] {-1, 4, 40, LEAST, MOST}) {
            due("side(" + a + ", 0)", x.side(a, 0), -1);
            due("side(0, " + a + ")", x.side(0, a), -1);
        }
        due("about(1)", x.about(1), 4);
    }

    private static void some() {
        CHECKS.at("promise 7");
        LookBench x = new LookBench();
        x.parts(4);
        due("some(10, 0, 0, 2)", x.some(10, 0, 0, 2), 0);
        due("says(0, 10)", x.says(0, 10), 1);
        due("says(0, 13)", x.says(0, 13), 0);
        due("says(0, 2)", x.says(0, 2), 0);
        // Parts 1 and 3 of the set take the worths 3 and 5 in turn.
        due("some(10, 43, 3, 5)", x.some(10, 43, 3, 5), 1);
        due("says(1, 2)", x.says(1, 2), 0);
        due("says(1, 8)", x.says(1, 8), 1);
        due("says(1, 7)", x.says(1, 7), 0);
        due("some(15, 10, 1, 2)", x.some(15, 10, 1, 2), 2);
        due("says(2, 10)", x.says(2, 10), 1);
        due("says(2, 13)", x.says(2, 13), 0);
        due("some(0, 0, 0, 0)", x.some(0, 0, 0, 0), 3);
        due("says(3, 0)", x.says(3, 0), 1);
        due("some(0, 7, 3, 1)", x.some(0, 7, 3, 1), 4);
        due("says(4, 15)", x.says(4, 15), 0);
        due("some(15, MAX, 3, 28)", x.some(15, Long.MAX_VALUE, 3, 28), 5);
        due("says(5, 15)", x.says(5, 15), 1);
        due("says(5, 14)", x.says(5, 14), 0);
        due("some(15, 0, 0, 100)", x.some(15, 0, 0, 100), 6);
        due("says(6, 15)", x.says(6, 15), 0);
        due("some(15, 228, 2, 3)", x.some(15, 228, 2, 3), 7);
        due("says(7, 6)", x.says(7, 6), 1);
        due("says(7, 5)", x.says(7, 5), 0);
        due("some(16, 0, 0, 1)", x.some(16, 0, 0, 1), -1);
        due("some(-1, 0, 0, 1)", x.some(-1, 0, 0, 1), -1);
        due("some(15, 0, 4, 1)", x.some(15, 0, 4, 1), -1);
        due("some(15, 0, -1, 1)", x.some(15, 0, -1, 1), -1);
        due("some(15, 0, 1, -1)", x.some(15, 0, 1, -1), -1);
        due("some(15, 0, 1, 101)", x.some(15, 0, 1, 101), -1);
        due("some(15, -1, 1, 1)", x.some(15, -1, 1, 1), -1);
        due("some(15, -1, 0, 1)", x.some(15, -1, 0, 1), -1);
        due("some(15, MIN, 3, 1)", x.some(15, Long.MIN_VALUE, 3, 1), -1);
        due("about(1)", x.about(1), 8);
    }

    private static void dual() {
        CHECKS.at("promise 8");
        LookBench x = pair();
        due("row(0, 1)", x.row(0, 1), 2);
        due("dual(2)", x.dual(2), 3);
        due("side(0, 1)", x.side(0, 1), 4);
        due("differ(3, 4)", x.differ(3, 4), -1);
        due("dual(0)", x.dual(0), 5);
        due("differ(5, 0)", x.differ(5, 0), -1);
        due("some(3, 0, 0, 0)", x.some(3, 0, 0, 0), 6);
        due("dual(6)", x.dual(6), 7);
        due("says(7, 3)", x.says(7, 3), 0);
        due("says(7, 0)", x.says(7, 0), 0);
        for (int a : new int[] {-1, 8, 40, LEAST, MOST}) {
            due("dual(" + a + ")", x.dual(a), -1);
        }
        LookBench y = new LookBench();
        y.parts(9);
        y.some(511, 0, 0, 3);
        y.some(511, 0, 0, 7);
        due("dual(0)", y.dual(0), 2);
        due("differ(2, 1)", y.differ(2, 1), -1);
    }

    private static void system() {
        CHECKS.at("promise 9");
        LookBench x = pair();
        due("system(2)", x.system(2), false);
        due("about(2)", x.about(2), -1);
        due("system(1)", x.system(1), true);
        due("about(2)", x.about(2), 1);
        due("told(2)", x.told(2), 175);
        for (int a : new int[] {-1, 2, 40, LEAST, MOST}) {
            due("system(" + a + ")", x.system(a), false);
        }
        due("about(2)", x.about(2), 1);
        due("told(2)", x.told(2), 175);
        due("system(0)", x.system(0), true);
        due("told(2)", x.told(2), 125);
        due("told(4)", x.told(4), 5);
    }

    private static void says() {
        CHECKS.at("promise 10");
        LookBench x = pair();
        due("says(0, 1)", x.says(0, 1), 1);
        due("says(0, 2)", x.says(0, 2), 0);
        for (int a : new int[] {-1, 4, LEAST, MOST}) {
            due("says(" + a + ", 0)", x.says(a, 0), -1);
            due("says(0, " + a + ")", x.says(0, a), -1);
        }
        due("says(2, 0)", x.says(2, 0), -1);
        LookBench y = new LookBench();
        y.parts(9);
        y.some(511, 0, 0, 5);
        for (int s = 0; s < 512; s++) {
            due("says(0, " + s + ")", y.says(0, s), Integer.bitCount(s) >= 5 ? 1 : 0);
        }
        due("says(0, 512)", y.says(0, 512), -1);
    }

    private static void differ() {
        CHECKS.at("promise 11");
        LookBench x = pair();
        due("differ(0, 1)", x.differ(0, 1), 1);
        due("differ(1, 0)", x.differ(1, 0), 1);
        due("differ(0, 0)", x.differ(0, 0), -1);
        x.row(0, 1);
        due("differ(1, 2)", x.differ(1, 2), 2);
        x.some(3, 0, 0, 0);
        due("differ(3, 2)", x.differ(3, 2), 0);
        for (int a : new int[] {-1, 4, LEAST, MOST}) {
            due("differ(" + a + ", 0)", x.differ(a, 0), -1);
            due("differ(0, " + a + ")", x.differ(0, a), -1);
        }
        LookBench y = new LookBench();
        y.parts(9);
        y.some(511, 0, 0, 9);
        y.some(511, 0, 0, 10);
        due("differ(0, 1)", y.differ(0, 1), 511);
    }

    private static void sets() {
        CHECKS.at("promise 12");
        LookBench x = pair();
        due("sets(0)", x.sets(0), -1);
        due("sets(1)", x.sets(1), -1);
        x.system(x.side(0, 1));
        due("sets(0)", x.sets(0), 2);
        due("sets(1)", x.sets(1), 1);
        for (int what : new int[] {-1, 2, LEAST, MOST}) {
            due("sets(" + what + ")", x.sets(what), -1);
        }
        x.see(0, 1);
        due("sets(0)", x.sets(0), 2);
        LookBench y = new LookBench();
        y.parts(9);
        y.system(y.some(511, 0, 0, 4));
        due("sets(0)", y.sets(0), 126);
        due("sets(1)", y.sets(1), 84);
        y.system(y.some(511, 0, 0, 0));
        due("sets(0)", y.sets(0), 1);
        due("sets(1)", y.sets(1), 0);
    }

    private static void set() {
        CHECKS.at("promise 13");
        LookBench x = pair();
        due("set(0, 0)", x.set(0, 0), -1);
        x.parts(3);
        x.single(0);
        x.single(1);
        x.single(2);
        x.side(1, 2);
        x.row(0, 3);
        x.system(4);
        due("set(0, 0)", x.set(0, 0), 3);
        due("set(0, 1)", x.set(0, 1), 5);
        due("set(0, 2)", x.set(0, 2), -1);
        due("set(1, 0)", x.set(1, 0), 1);
        due("set(1, 1)", x.set(1, 1), 6);
        due("set(1, 2)", x.set(1, 2), -1);
        for (int i : new int[] {-1, LEAST, MOST}) {
            due("set(0, " + i + ")", x.set(0, i), -1);
            due("set(" + i + ", 0)", x.set(i, 0), -1);
        }
        due("set(2, 0)", x.set(2, 0), -1);
        x.system(x.some(7, 0, 0, 8));
        due("set(0, 0)", x.set(0, 0), -1);
        due("set(1, 0)", x.set(1, 0), 0);
        due("set(1, 1)", x.set(1, 1), -1);
    }

    private static void see() {
        CHECKS.at("promise 14");
        LookBench x = pair();
        due("see(1, 1)", x.see(1, 1), true);
        due("partOf(1, 3)", x.partOf(1, 3), 1);
        due("told(0)", x.told(0), 20);
        due("see(1, 0)", x.see(1, 0), true);
        due("partOf(1, 3)", x.partOf(1, 3), 0);
        due("told(0)", x.told(0), 5);
        for (int how : new int[] {-2, 2, LEAST, MOST}) {
            due("see(1, " + how + ")", x.see(1, how), false);
        }
        for (int p : new int[] {-1, 2, 32, 33, LEAST, MOST}) {
            due("see(" + p + ", 1)", x.see(p, 1), false);
        }
        due("partOf(1, 3)", x.partOf(1, 3), 0);
        due("partOf(0, 3)", x.partOf(0, 3), -1);
        due("see(1, -1)", x.see(1, -1), true);
        due("partOf(1, 3)", x.partOf(1, 3), -1);
        due("told(0)", x.told(0), 25);
    }

    private static void partOf() {
        CHECKS.at("promise 15");
        LookBench x = pair();
        due("partOf(1, 0)", x.partOf(1, 0), 4);
        due("partOf(1, 1)", x.partOf(1, 1), 1);
        due("partOf(1, 2)", x.partOf(1, 2), 7);
        due("partOf(1, 3)", x.partOf(1, 3), -1);
        for (int a : new int[] {-1, 4, LEAST, MOST}) {
            due("partOf(" + a + ", 0)", x.partOf(a, 0), -2);
            due("partOf(0, " + a + ")", x.partOf(0, a), -2);
        }
        due("partOf(2, 3)", x.partOf(2, 3), -2);
    }

    private static void sure() {
        CHECKS.at("promise 16");
        LookBench x = pair();
        due("sure()", x.sure(), -2);
        x.system(x.side(0, 1));
        due("sure()", x.sure(), -1);
        x.see(0, 0);
        due("sure()", x.sure(), -1);
        x.see(1, 0);
        due("sure()", x.sure(), 0);
        x.see(1, 1);
        due("sure()", x.sure(), 1);
        x.see(0, -1);
        due("sure()", x.sure(), 1);
        x.see(1, -1);
        x.system(x.some(3, 0, 0, 0));
        due("sure()", x.sure(), 1);
        x.system(x.some(3, 0, 0, 3));
        due("sure()", x.sure(), 0);
    }

    private static void toldWeights() {
        CHECKS.at("promise 17, 0 and 1");
        LookBench x = pair();
        due("told(0)", x.told(0), 25);
        for (int what = 1; what <= 8; what++) {
            due("told(" + what + ")", x.told(what), -2);
        }
        x.system(x.side(0, 1));
        for (int what : new int[] {-1, 9, -2, LEAST, MOST}) {
            due("told(" + what + ")", x.told(what), -2);
        }
        due("told(1)", x.told(1), 22);
        x.see(0, 0);
        due("told(0)", x.told(0), 15);
        due("told(1)", x.told(1), 12);
        x.see(1, 0);
        due("told(0)", x.told(0), 3);
        due("told(1)", x.told(1), 0);
    }

    private static void toldBest() {
        CHECKS.at("promise 17, 2 and 3");
        LookBench x = sidePair();
        due("told(2)", x.told(2), 200);
        due("told(3)", x.told(3), 1);
        x.see(0, 0);
        due("told(2)", x.told(2), 105);
        due("told(3)", x.told(3), 1);
        x.see(0, 1);
        due("told(2)", x.told(2), 0);
        due("told(3)", x.told(3), -1);
        LookBench y = twoOfThree();
        due("told(2)", y.told(2), 20);
        due("told(3)", y.told(3), 0);
        y.see(0, 1);
        due("told(2)", y.told(2), 6);
        due("told(3)", y.told(3), 1);
        y.parts(9);
        for (int p = 0; p < 9; p++) {
            y.part(p, 9, 9, 1000);
        }
        y.system(y.some(511, 0, 0, 9));
        due("told(2)", y.told(2), 387420489L * 1022 * 1000);
        y.parts(2);
        y.part(0, 1, 1, 0);
        y.single(1);
        y.system(0);
        due("told(2)", y.told(2), 4);
        due("told(3)", y.told(3), 0);
    }

    private static void toldWorst() {
        CHECKS.at("promise 17, 4 and 5");
        LookBench x = sidePair();
        due("told(4)", x.told(4), 12);
        due("told(5)", x.told(5), 0);
        x.see(0, 0);
        due("told(4)", x.told(4), 7);
        due("told(5)", x.told(5), 1);
        x.see(1, 1);
        due("told(4)", x.told(4), 0);
        due("told(5)", x.told(5), -1);
        // A part that tells nothing is left out by the worst price too.
        x.see(0, -1);
        x.see(1, -1);
        x.system(1);
        due("told(4)", x.told(4), 7);
        due("told(5)", x.told(5), 1);
    }

    private static void toldBound() {
        CHECKS.at("promise 17, 6");
        LookBench x = sidePair();
        due("told(6)", x.told(6), 170);
        x.see(0, 0);
        due("told(6)", x.told(6), 105);
        x.see(0, 1);
        due("told(6)", x.told(6), 0);
        LookBench y = twoOfThree();
        due("told(6)", y.told(6), 16);
        y.part(0, 1, 1, 5);
        due("told(6)", y.told(6), 4 * 2 + 4 * 6);
        y.see(2, 0);
        due("told(6)", y.told(6), 1 + 1 + 5 + 6);
    }

    private static void toldOrder() {
        CHECKS.at("promise 17, 7");
        LookBench x = sidePair();
        due("told(7)", x.told(7), 230);
        x.order(1);
        due("told(7)", x.told(7), 200);
        x.see(1, 0);
        due("told(7)", x.told(7), 25);
        x.see(0, 1);
        due("told(7)", x.told(7), 0);
        LookBench y = twoOfThree();
        y.part(2, 1, 1, 3);
        due("told(7)", y.told(7), 16 + 12);
        y.order(2);
        due("told(7)", y.told(7), 32 + 4);
    }

    private static void toldGreatest() {
        CHECKS.at("promise 17, 8");
        LookBench x = sidePair();
        due("told(8)", x.told(8), 12);
        x.see(1, 0);
        due("told(8)", x.told(8), 5);
        x.see(0, 1);
        due("told(8)", x.told(8), 0);
        LookBench y = pair();
        y.system(1);
        due("told(8)", y.told(8), 12);
        y.order(1);
        due("told(8)", y.told(8), 7);
        // Only if the first is good the dear one is looked at.
        y.ratios(false, true);
        y.system(y.row(0, 1));
        due("told(8)", y.told(8), 12);
        due("told(4)", y.told(4), 12);
        LookBench z = new LookBench();
        z.parts(9);
        z.system(z.some(511, 0, 0, 9));
        due("told(8)", z.told(8), 9);
        due("run(2, 511)", z.run(2, 511), 9);
        due("looked(8)", z.looked(8), 8);
    }

    private static void of() {
        CHECKS.at("promise 18");
        LookBench x = pair();
        due("of(0, 0)", x.of(0, 0), -2);
        due("of(0, 1)", x.of(0, 1), -2);
        x.system(x.side(0, 1));
        due("of(0, 0)", x.of(0, 0), 95);
        due("of(1, 0)", x.of(1, 0), 175);
        due("of(0, 1)", x.of(0, 1), 5);
        due("of(1, 1)", x.of(1, 1), 15);
        for (int a : new int[] {-1, 2, LEAST, MOST}) {
            due("of(" + a + ", 0)", x.of(a, 0), -2);
            due("of(0, " + a + ")", x.of(0, a), -2);
        }
        x.see(0, 0);
        due("of(0, 0)", x.of(0, 0), -2);
        due("of(0, 1)", x.of(0, 1), -2);
        due("of(1, 0)", x.of(1, 0), 105);
        due("of(1, 1)", x.of(1, 1), 15);
        x.see(0, 1);
        due("of(0, 1)", x.of(0, 1), -2);
        due("of(1, 0)", x.of(1, 0), 0);
        due("of(1, 1)", x.of(1, 1), 0);
        LookBench y = twoOfThree();
        due("of(1, 0)", y.of(1, 0), 8);
        due("of(1, 1)", y.of(1, 1), 4);
    }

    private static void order() {
        CHECKS.at("promise 19");
        LookBench x = new LookBench();
        x.parts(9);
        for (int p = 8; p >= 0; p--) {
            due("order(" + p + ")", x.order(p), 9 - p);
            due("order(" + p + ")", x.order(p), -1);
        }
        for (int p : new int[] {-1, 9, LEAST, MOST}) {
            due("order(" + p + ")", x.order(p), -1);
        }
        due("about(3)", x.about(3), 9);
        x.parts(2);
        due("order(2)", x.order(2), -1);
        due("order(1)", x.order(1), 1);
        due("order(0)", x.order(0), 2);
    }

    private static void ratios() {
        CHECKS.at("promise 20");
        LookBench x = pair();
        due("ratios(true, false)", x.ratios(true, false), 2);
        due("ordered(0)", x.ordered(0), 1);
        due("ordered(1)", x.ordered(1), 0);
        due("ratios(false, false)", x.ratios(false, false), 2);
        due("ordered(0)", x.ordered(0), 0);
        due("ordered(1)", x.ordered(1), 1);
        due("order(0)", x.order(0), -1);
        due("ratios(false, true)", x.ratios(false, true), 0);
        due("ordered(0)", x.ordered(0), -1);
        due("order(1)", x.order(1), 1);
        due("ratios(true, true)", x.ratios(true, true), 0);
        LookBench y = new LookBench();
        y.parts(5);
        y.part(0, 3, 6, 4);
        y.part(1, 1, 2, 4);
        y.part(2, 2, 4, 3);
        y.part(3, 1, 9, 0);
        y.part(4, 5, 1, 1);
        int[] byRow = {3, 2, 0, 1, 4};
        int[] bySide = {3, 4, 2, 0, 1};
        due("ratios(false, false)", y.ratios(false, false), 5);
        for (int i = 0; i < 5; i++) {
            due("ordered(" + i + ")", y.ordered(i), byRow[i]);
        }
        due("ratios(true, false)", y.ratios(true, false), 5);
        for (int i = 0; i < 5; i++) {
            due("ordered(" + i + ")", y.ordered(i), bySide[i]);
        }
        y.part(3, 1, 9, 1000);
        due("ordered(0)", y.ordered(0), 3);
    }

    private static void ordered() {
        CHECKS.at("promise 21");
        LookBench x = new LookBench();
        x.parts(4);
        x.order(2);
        x.order(0);
        due("ordered(0)", x.ordered(0), 2);
        due("ordered(1)", x.ordered(1), 0);
        for (int i : new int[] {2, 9, -1, LEAST, MOST}) {
            due("ordered(" + i + ")", x.ordered(i), -1);
        }
    }

    private static void run() {
        CHECKS.at("promise 22");
        LookBench x = pair();
        due("run(0, 0)", x.run(0, 0), -1);
        x.system(x.side(0, 1));
        due("run(0, 0)", x.run(0, 0), 12);
        due("run(0, 1)", x.run(0, 1), 12);
        due("run(0, 2)", x.run(0, 2), 7);
        due("run(1, 1)", x.run(1, 1), 5);
        due("run(1, 2)", x.run(1, 2), 12);
        due("run(2, 3)", x.run(2, 3), 5);
        x.order(1);
        due("run(2, 3)", x.run(2, 3), 7);
        for (int a : new int[] {-1, 4, LEAST, MOST}) {
            due("run(" + a + ", 0)", x.run(a, 0), -1);
            due("run(0, " + a + ")", x.run(0, a), -1);
        }
        due("run(3, 0)", x.run(3, 0), -1);
        x.see(1, 0);
        due("run(0, 2)", x.run(0, 2), -1);
        due("run(0, 3)", x.run(0, 3), -1);
        due("run(0, 0)", x.run(0, 0), 5);
        due("run(2, 1)", x.run(2, 1), 5);
        due("partOf(0, 3)", x.partOf(0, 3), -1);
        x.see(1, 1);
        due("run(0, 2)", x.run(0, 2), 0);
        due("run(0, 0)", x.run(0, 0), -1);
    }

    private static void looked() {
        CHECKS.at("promise 23");
        LookBench x = sidePair();
        x.run(0, 0);
        due("looked(0)", x.looked(0), 1);
        due("looked(1)", x.looked(1), 0);
        for (int i : new int[] {2, 9, -1, LEAST, MOST}) {
            due("looked(" + i + ")", x.looked(i), -1);
        }
        x.run(3, 0);
        due("looked(1)", x.looked(1), 0);
        x.run(0, 2);
        due("looked(0)", x.looked(0), 1);
        due("looked(1)", x.looked(1), -1);
        x.see(0, 1);
        x.run(0, 1);
        due("looked(0)", x.looked(0), -1);
        LookBench y = twoOfThree();
        y.order(2);
        y.run(2, 3);
        due("looked(0)", y.looked(0), 2);
        due("looked(1)", y.looked(1), 0);
        due("looked(2)", y.looked(2), 1);
        y.told(7);
        due("looked(2)", y.looked(2), 1);
        due("about(4)", y.about(4), 3);
    }

    private static void about() {
        CHECKS.at("promise 24");
        LookBench x = sidePair();
        x.order(1);
        x.run(0, 0);
        due("about(0)", x.about(0), 2);
        due("about(1)", x.about(1), 3);
        due("about(2)", x.about(2), 2);
        due("about(3)", x.about(3), 1);
        due("about(4)", x.about(4), 2);
        for (int what : new int[] {-1, 5, LEAST, MOST}) {
            due("about(" + what + ")", x.about(what), -1);
        }
        // No promise says that new parts take away the latest run.
        x.parts(3);
        due("about(4)", x.about(4), 2);
        due("looked(0)", x.looked(0), 1);
    }
}
