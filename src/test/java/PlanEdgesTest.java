/** The edges that the document names for promises 16 to 24: one method for each sentence. */
public final class PlanEdgesTest {
    private static final Checks CHECKS = new Checks();

    public static void main(String[] args) {
        sureWithAllSeen();
        sureWithNothingSeen();
        sureByOneLook();
        sureWithoutSystem();
        leftWithoutSystem();
        greatestWeights();
        greatestPrices();
        leastWeights();
        toldWhenSure();
        toldWhenSureByAnotherSystem();
        toldOfOthers();
        looksForNothing();
        leastPartOfBest();
        leastPartOfWorst();
        boundOfWhatWasSeen();
        boundLooksTogether();
        orderUpToItsEnd();
        greatestPriceOfTheOrder();
        gainAndMattersWhenSure();
        gainAndMattersOfTheSeen();
        gainOfAPartThatTellsNothing();
        fullOrder();
        orderOfNoSuchPart();
        ratiosInsteadOfTheOrder();
        emptyOrder();
        likeRatios();
        nearlyLikeRatios();
        ratiosOfNoPrice();
        ratiosStay();
        orderedEnds();
        runOfTheLeastAndGreatestSetting();
        runAsItWasSeen();
        runLeavesWhatWasSeen();
        runWhenSure();
        runOfNoPrice();
        runWithoutSystem();
        lookedEnds();
        latestRun();
        refusedRun();
        aboutEach();
        CHECKS.end();
    }

    private static void due(String call, long got, long want) {
        CHECKS.due(call, got, want);
    }

    private static void due(String call, boolean got, boolean want) {
        CHECKS.due(call, got, want);
    }

    private static void toldAll(LookBench x, long... want) {
        for (int what = 0; what < want.length; what++) {
            due("told(" + what + ")", x.told(what), want[what]);
        }
    }

    private static void orderIs(LookBench x, int... want) {
        due("about(3)", x.about(3), want.length);
        for (int i = 0; i < want.length; i++) {
            due("ordered(" + i + ")", x.ordered(i), want[i]);
        }
        due("ordered(" + want.length + ")", x.ordered(want.length), -1);
    }

    private static void looksAre(LookBench x, int... want) {
        due("about(4)", x.about(4), want.length);
        for (int i = 0; i < want.length; i++) {
            due("looked(" + i + ")", x.looked(i), want[i]);
        }
        due("looked(" + want.length + ")", x.looked(want.length), -1);
    }

    /** Two of three parts are enough; a look costs 1, 2, 4. */
    private static LookBench twoOfThree() {
        LookBench x = Edges.ofParts(3);
        for (int p = 0; p < 3; p++) {
            x.part(p, 1, 1, 1 << p);
        }
        x.system(x.some(7, 0, 0, 2));
        return x;
    }

    /** Two parts, of which only part 1 tells something. */
    private static LookBench onlyPartOne(int priceOfZero, int priceOfOne) {
        LookBench x = Edges.ofParts(2);
        x.part(0, 2, 3, priceOfZero);
        x.part(1, 1, 4, priceOfOne);
        x.system(x.single(1));
        return x;
    }

    private static void sureWithAllSeen() {
        CHECKS.at("(16) 1 good, 0 not good: all parts are SEEN");
        for (int setting = 0; setting < 8; setting++) {
            LookBench x = twoOfThree();
            for (int p = 0; p < 3; p++) {
                x.see(p, setting >> p & 1);
            }
            due("sure() of " + setting, x.sure(), Integer.bitCount(setting) >= 2 ? 1 : 0);
        }
    }

    private static void sureWithNothingSeen() {
        CHECKS.at("(16) SURE: all SETTINGS are alike, though nothing was SEEN");
        LookBench x = Edges.ofParts(9);
        x.some(511, 0, 0, 0);
        x.some(511, 0, 0, 1);
        x.some(511, 0, 0, 9);
        x.some(511, 0, 0, 10);
        int[] due = {1, -1, -1, 0};
        for (int rule = 0; rule < 4; rule++) {
            x.system(rule);
            due("sure() of rule " + rule, x.sure(), due[rule]);
        }
    }

    private static void sureByOneLook() {
        CHECKS.at("(16) NONE it isn't SURE: up to the last look, and again without it");
        LookBench x = Edges.ofParts(9);
        x.system(x.some(511, 0, 0, 9));
        for (int p = 0; p < 8; p++) {
            x.see(p, 1);
            due("sure()", x.sure(), -1);
        }
        x.see(8, 1);
        due("sure()", x.sure(), 1);
        x.see(8, 0);
        due("sure()", x.sure(), 0);
        x.see(8, -1);
        due("sure()", x.sure(), -1);
        x.see(0, 0);
        due("sure()", x.sure(), 0);
    }

    private static void sureWithoutSystem() {
        CHECKS.at("(16) -2 without THE SYSTEM");
        LookBench x = Edges.ofParts(1);
        due("sure()", x.sure(), -2);
        x.some(0, 0, 0, 0);
        x.see(0, 1);
        due("sure()", x.sure(), -2);
        x.system(0);
        due("sure()", x.sure(), 1);
        x.parts(1);
        due("sure()", x.sure(), -2);
    }

    private static void leftWithoutSystem() {
        CHECKS.at("(17) -2 of 1 to 8 also without THE SYSTEM, but not of 0");
        LookBench x = Edges.ofParts(2);
        x.part(0, 2, 3, 1);
        toldAll(x, 10, -2, -2, -2, -2, -2, -2, -2, -2, -2);
        x.see(0, 0);
        toldAll(x, 6, -2, -2, -2, -2, -2, -2, -2, -2, -2);
    }

    private static void greatestWeights() {
        CHECKS.at("(17, 18) the greatest WEIGHTS and prices, in a row of nine");
        LookBench x = Edges.greatest(9);
        long all = 512 * Edges.NINES;
        toldAll(x, all, Edges.NINES, 1022000 * Edges.NINES, 0, 9000, 0, 520000 * Edges.NINES, 1022000 * Edges.NINES, 9000);
        due("of(8, 0)", x.of(8, 0), 1000 * all);
        due("of(8, 1)", x.of(8, 1), 2 * Edges.NINES);
        due("run(0, 511)", x.run(0, 511), 9000);
        due("run(1, 511)", x.run(1, 511), 9000);
        due("run(2, 511)", x.run(2, 511), 9000);
        due("run(0, 510)", x.run(0, 510), 1000);
    }

    private static void greatestPrices() {
        CHECKS.at("(17) the greatest MEAN that an ORDER can have");
        LookBench x = Edges.greatest(9);
        x.system(x.single(8));
        long all = 512 * Edges.NINES;
        toldAll(x, all, all / 2, 1000 * all, 8, 1000, 8, 1000 * all, 9000 * all, 9000);
        due("of(8, 0)", x.of(8, 0), 1000 * all);
        due("of(8, 1)", x.of(8, 1), all);
        due("of(7, 1)", x.of(7, 1), 0);
    }

    private static void leastWeights() {
        CHECKS.at("(17) LEFT with all parts SEEN: one SETTING's WEIGHT");
        LookBench x = Edges.greatest(5);
        for (int p = 0; p < 9; p++) {
            x.part(p, 1 + p, 9, 1000);
            x.see(p, 1);
        }
        toldAll(x, 362880, 362880, 0, -1, 0, -1, 0, 0, 0);
        for (int p = 0; p < 9; p++) {
            x.see(p, 0);
        }
        toldAll(x, Edges.NINES, 0, 0, -1, 0, -1, 0, 0, 0);
    }

    private static void toldWhenSure() {
        CHECKS.at("(17) NONE if SURE");
        LookBench x = twoOfThree();
        x.order(2);
        x.see(0, 1);
        x.see(1, 1);
        toldAll(x, 2, 2, 0, -1, 0, -1, 0, 0, 0);
        x.see(0, 0);
        x.see(1, 0);
        toldAll(x, 2, 0, 0, -1, 0, -1, 0, 0, 0);
        x.see(0, 1);
        toldAll(x, 2, 1, 8, 2, 4, 2, 8, 8, 4);
        LookBench y = Edges.ofParts(2);
        y.system(y.some(3, 0, 0, 0));
        toldAll(y, 4, 4, 0, -1, 0, -1, 0, 0, 0);
        y.system(y.some(3, 0, 0, 3));
        toldAll(y, 4, 0, 0, -1, 0, -1, 0, 0, 0);
    }

    private static void toldWhenSureByAnotherSystem() {
        CHECKS.at("(9, 17) NONE if SURE: by another SYSTEM than the one before");
        LookBench x = twoOfThree();
        toldAll(x, 8, 4, 40, 0, 7, 0, 34, 40, 7);
        x.system(x.some(7, 0, 0, 0));
        toldAll(x, 8, 8, 0, -1, 0, -1, 0, 0, 0);
        due("of(0, 0)", x.of(0, 0), 0);
        x.system(0);
        toldAll(x, 8, 4, 40, 0, 7, 0, 34, 40, 7);
        x.system(x.some(7, 0, 0, 4));
        toldAll(x, 8, 0, 0, -1, 0, -1, 0, 0, 0);
        due("of(0, 0)", x.of(0, 0), 0);
        // One part good is enough: what is sure now was not before.
        x.system(0);
        x.system(x.some(7, 0, 0, 1));
        due("of(0, 0)", x.of(0, 0), 8);
        x.see(0, 1);
        toldAll(x, 4, 4, 0, -1, 0, -1, 0, 0, 0);
    }

    private static void toldOfOthers() {
        CHECKS.at("(17) -2 for others");
        LookBench x = twoOfThree();
        due("told(-1)", x.told(-1), -2);
        due("told(9)", x.told(9), -2);
        due("told(8)", x.told(8), 7);
        x.see(0, 1);
        x.see(1, 1);
        due("told(-1)", x.told(-1), -2);
        due("told(9)", x.told(9), -2);
    }

    private static void looksForNothing() {
        CHECKS.at("(17) PRICE 0: a next part is told though BEST and WORST are 0");
        LookBench x = onlyPartOne(0, 0);
        toldAll(x, 25, 5, 0, 0, 0, 0, 0, 0, 0);
        x.part(0, 2, 3, 1);
        toldAll(x, 25, 5, 0, 1, 0, 1, 0, 25, 1);
    }

    private static void leastPartOfBest() {
        CHECKS.at("(17) BEST's next part: the least one with which a PLAN begins that has it");
        LookBench x = onlyPartOne(0, 7);
        due("told(2)", x.told(2), 175);
        due("told(3)", x.told(3), 0);
        x.part(0, 2, 3, 1);
        due("told(2)", x.told(2), 175);
        due("told(3)", x.told(3), 1);
        LookBench y = Edges.ofParts(9);
        y.system(y.some(511, 0, 0, 9));
        for (int p = 0; p < 9; p++) {
            due("told(3)", y.told(3), p);
            y.see(p, 1);
        }
        due("told(3)", y.told(3), -1);
        y.see(0, -1);
        due("told(3)", y.told(3), 0);
    }

    private static void leastPartOfWorst() {
        CHECKS.at("(17) WORST's next part likewise");
        LookBench x = onlyPartOne(0, 7);
        due("told(4)", x.told(4), 7);
        due("told(5)", x.told(5), 0);
        x.part(0, 2, 3, 1);
        due("told(4)", x.told(4), 7);
        due("told(5)", x.told(5), 1);
        // All three have to be looked at, at the worst, with whichever one begins; the mean is least with part 0.
        LookBench y = twoOfThree();
        due("told(4)", y.told(4), 7);
        due("told(5)", y.told(5), 0);
        y.part(0, 1, 1, 900);
        due("told(3)", y.told(3), 1);
        due("told(4)", y.told(4), 906);
        due("told(5)", y.told(5), 0);
    }

    private static void boundOfWhatWasSeen() {
        CHECKS.at("(17) BOUND: a set of parts that aren't SEEN, which with what was SEEN makes SURE");
        LookBench x = twoOfThree();
        // The two cheapest that are alike: 3 in four settings, 5 in two, 6 in two.
        due("told(6)", x.told(6), 4 * 3 + 2 * 5 + 2 * 6);
        x.see(0, 1);
        due("told(6)", x.told(6), 2 + 2 + 4 + 6);
        x.see(1, 0);
        due("told(6)", x.told(6), 4 + 4);
        x.see(2, 0);
        due("told(6)", x.told(6), 0);
    }

    private static void boundLooksTogether() {
        CHECKS.at("(17) BOUND: no PLAN can be below, but one may be above");
        LookBench x = Edges.ofParts(2);
        x.part(0, 1, 1, 10);
        x.part(1, 1, 1, 10);
        x.single(0);
        x.single(1);
        x.system(x.side(0, 1));
        due("told(6)", x.told(6), 20 + 10 + 10 + 10);
        due("told(2)", x.told(2), 20 + 20 + 10 + 10);
        x.system(x.row(0, 1));
        due("told(6)", x.told(6), 10 + 10 + 10 + 20);
        x.system(0);
        due("told(6)", x.told(6), 40);
        due("told(2)", x.told(2), 40);
    }

    private static void orderUpToItsEnd() {
        CHECKS.at("(17) ORDER: the first of the row that isn't SEEN; when all are, the least part that isn't");
        LookBench x = twoOfThree();
        due("told(7) of none", x.told(7), 8 + 16 + 16);
        x.order(2);
        due("told(7) of 2", x.told(7), 32 + 8 + 8);
        x.order(1);
        due("told(7) of 2, 1", x.told(7), 32 + 16 + 4);
        x.see(1, 1);
        due("told(7) with 1 SEEN", x.told(7), 16 + 2);
        x.see(2, 0);
        due("told(7) with 1, 2 SEEN", x.told(7), 2);
        x.see(0, 0);
        due("told(7) with all SEEN", x.told(7), 0);
        LookBench y = Edges.ofParts(9);
        y.system(y.some(511, 0, 0, 9));
        y.order(8);
        y.see(8, 1);
        y.see(0, 1);
        y.run(2, 511);
        looksAre(y, 1, 2, 3, 4, 5, 6, 7);
    }

    private static void greatestPriceOfTheOrder() {
        CHECKS.at("(17) 8 its greatest price");
        LookBench x = onlyPartOne(9, 7);
        due("told(8) of none", x.told(8), 16);
        x.order(1);
        due("told(8) of 1", x.told(8), 7);
        x.see(1, 0);
        due("told(8) when SURE", x.told(8), 0);
        // Part 0 good ends it, bad leads to the dear one; and the other way round.
        LookBench y = Edges.ofParts(2);
        y.part(1, 9, 1, 1000);
        y.single(0);
        y.single(1);
        y.system(y.side(0, 1));
        due("told(8) of a SIDE", y.told(8), 1001);
        y.system(y.row(0, 1));
        due("told(8) of a ROW", y.told(8), 1001);
        y.see(0, 1);
        due("told(8) with 0 SEEN", y.told(8), 1000);
    }

    private static void gainAndMattersWhenSure() {
        CHECKS.at("(18) GAIN and MATTERS of a part that isn't SEEN, when it is SURE");
        LookBench x = twoOfThree();
        x.see(0, 1);
        x.see(1, 1);
        due("of(2, 0)", x.of(2, 0), 0);
        due("of(2, 1)", x.of(2, 1), 0);
        x.see(1, 0);
        due("of(2, 0)", x.of(2, 0), 8);
        due("of(2, 1)", x.of(2, 1), 2);
    }

    private static void gainAndMattersOfTheSeen() {
        CHECKS.at("(18) -2 if it is SEEN");
        LookBench x = twoOfThree();
        for (int how = 0; how <= 1; how++) {
            x.see(1, how);
            due("of(1, 0)", x.of(1, 0), -2);
            due("of(1, 1)", x.of(1, 1), -2);
            due("of(0, 1)", x.of(0, 1), 2);
        }
        x.see(1, -1);
        // Best is 40; behind part 1 it is 4 * 1 + 2 * 4 for good and for bad.
        due("of(1, 0)", x.of(1, 0), 40 - 24);
        due("of(1, 1)", x.of(1, 1), 4);
        due("of(3, 0)", x.of(3, 0), -2);
        due("of(-1, 1)", x.of(-1, 1), -2);
        due("of(1, 2)", x.of(1, 2), -2);
        due("of(1, -1)", x.of(1, -1), -2);
    }

    private static void gainOfAPartThatTellsNothing() {
        CHECKS.at("(18) GAIN and MATTERS of a part that tells nothing");
        LookBench x = onlyPartOne(0, 7);
        due("of(0, 0)", x.of(0, 0), 0);
        due("of(0, 1)", x.of(0, 1), 0);
        due("of(1, 0)", x.of(1, 0), 175);
        due("of(1, 1)", x.of(1, 1), 25);
    }

    private static void fullOrder() {
        CHECKS.at("(19) how many it has. NONE: it is there");
        LookBench x = Edges.ofParts(9);
        for (int p = 0; p < 9; p++) {
            due("order(" + p + ")", x.order(p), p + 1);
            for (int q = 0; q <= p; q++) {
                due("order(" + q + ")", x.order(q), -1);
            }
        }
        orderIs(x, 0, 1, 2, 3, 4, 5, 6, 7, 8);
    }

    private static void orderOfNoSuchPart() {
        CHECKS.at("(19) NONE: no such one");
        LookBench x = Edges.ofParts(2);
        due("order(2)", x.order(2), -1);
        due("order(-1)", x.order(-1), -1);
        orderIs(x);
        due("order(1)", x.order(1), 1);
        due("order(2)", x.order(2), -1);
        orderIs(x, 1);
        x.see(0, 1);
        due("order(0) though SEEN", x.order(0), 2);
        orderIs(x, 1, 0);
    }

    private static void ratiosInsteadOfTheOrder() {
        CHECKS.at("(20) the ORDER becomes: all parts by RATIOS");
        LookBench x = Edges.ofParts(3);
        x.part(0, 1, 9, 3);
        x.part(1, 9, 1, 3);
        x.part(2, 5, 5, 3);
        x.order(1);
        due("ratios(false, false)", x.ratios(false, false), 3);
        orderIs(x, 0, 2, 1);
        due("ratios(true, false)", x.ratios(true, false), 3);
        orderIs(x, 1, 2, 0);
        x.see(2, 1);
        due("ratios(false, false)", x.ratios(false, false), 3);
        orderIs(x, 0, 2, 1);
        due("order(2)", x.order(2), -1);
        LookBench y = Edges.ofParts(1);
        due("ratios(false, false)", y.ratios(false, false), 1);
        orderIs(y, 0);
        LookBench z = Edges.ofParts(9);
        for (int p = 0; p < 9; p++) {
            z.part(p, 1, 1, 1000 - p);
        }
        due("ratios(true, false)", z.ratios(true, false), 9);
        orderIs(z, 8, 7, 6, 5, 4, 3, 2, 1, 0);
    }

    private static void emptyOrder() {
        CHECKS.at("(20) or (empty) none");
        LookBench x = Edges.ofParts(9);
        due("ratios(false, true)", x.ratios(false, true), 0);
        due("ratios(false, false)", x.ratios(false, false), 9);
        due("ratios(false, true)", x.ratios(false, true), 0);
        orderIs(x);
        x.order(4);
        due("ratios(true, true)", x.ratios(true, true), 0);
        orderIs(x);
        due("order(4)", x.order(4), 1);
    }

    private static void likeRatios() {
        CHECKS.at("(20) of like ones the lesser part");
        LookBench x = Edges.ofParts(9);
        due("ratios(false, false)", x.ratios(false, false), 9);
        orderIs(x, 0, 1, 2, 3, 4, 5, 6, 7, 8);
        due("ratios(true, false)", x.ratios(true, false), 9);
        orderIs(x, 0, 1, 2, 3, 4, 5, 6, 7, 8);
        // 10 / 3 each, though by floating numbers they differ; part 2 costs a little less.
        LookBench y = Edges.ofParts(4);
        y.part(0, 7, 3, 1);
        y.part(1, 1, 9, 3);
        y.part(2, 1, 2, 2);
        y.part(3, 2, 3, 2);
        due("ratios(false, false)", y.ratios(false, false), 4);
        orderIs(y, 2, 0, 1, 3);
        LookBench z = Edges.ofParts(4);
        z.part(0, 3, 7, 1);
        z.part(1, 9, 1, 3);
        z.part(2, 2, 1, 2);
        z.part(3, 3, 2, 2);
        due("ratios(true, false)", z.ratios(true, false), 4);
        orderIs(z, 2, 0, 1, 3);
    }

    private static void nearlyLikeRatios() {
        CHECKS.at("(20) least first: 1111.25 and 1111.11");
        LookBench x = Edges.ofParts(2);
        x.part(0, 2, 8, 889);
        x.part(1, 1, 9, 1000);
        due("ratios(false, false)", x.ratios(false, false), 2);
        orderIs(x, 1, 0);
        x.part(0, 8, 2, 889);
        x.part(1, 9, 1, 1000);
        due("ratios(true, false)", x.ratios(true, false), 2);
        orderIs(x, 1, 0);
    }

    private static void ratiosOfNoPrice() {
        CHECKS.at("(20) PRICE 0 and 1000");
        LookBench x = Edges.ofParts(4);
        x.part(0, 9, 1, 1000);
        x.part(1, 9, 1, 0);
        x.part(2, 9, 9, 1);
        x.part(3, 1, 9, 0);
        due("ratios(false, false)", x.ratios(false, false), 4);
        orderIs(x, 1, 3, 2, 0);
        due("ratios(true, false)", x.ratios(true, false), 4);
        orderIs(x, 1, 3, 2, 0);
    }

    private static void ratiosStay() {
        CHECKS.at("(20) the ORDER becomes so once");
        LookBench x = Edges.ofParts(2);
        x.part(0, 1, 1, 2);
        x.ratios(false, false);
        orderIs(x, 1, 0);
        x.part(0, 1, 1, 0);
        orderIs(x, 1, 0);
    }

    private static void orderedEnds() {
        CHECKS.at("(21) NONE if there is none such");
        LookBench x = Edges.ofParts(9);
        due("ordered(0)", x.ordered(0), -1);
        x.order(8);
        due("ordered(-1)", x.ordered(-1), -1);
        due("ordered(0)", x.ordered(0), 8);
        due("ordered(1)", x.ordered(1), -1);
        x.ratios(false, false);
        due("ordered(-1)", x.ordered(-1), -1);
        due("ordered(8)", x.ordered(8), 8);
        due("ordered(9)", x.ordered(9), -1);
        x.ratios(false, true);
        due("ordered(0)", x.ordered(0), -1);
    }

    private static void runOfTheLeastAndGreatestSetting() {
        CHECKS.at("(22) NONE: no such what, SETTING");
        LookBench x = twoOfThree();
        for (int what = 0; what <= 2; what++) {
            due("run(" + what + ", -1)", x.run(what, -1), -1);
            due("run(" + what + ", 0)", x.run(what, 0), 3);
            due("run(" + what + ", 7)", x.run(what, 7), 3);
            due("run(" + what + ", 8)", x.run(what, 8), -1);
        }
        due("run(-1, 0)", x.run(-1, 0), -1);
        due("run(3, 0)", x.run(3, 0), -1);
    }

    private static void runAsItWasSeen() {
        CHECKS.at("(22) NONE: one that isn't as it was SEEN");
        for (int what = 0; what <= 2; what++) {
            LookBench x = twoOfThree();
            x.see(1, 1);
            due("run(" + what + ", 5)", x.run(what, 5), -1);
            due("run(" + what + ", 0)", x.run(what, 0), -1);
            due("run(" + what + ", 2)", x.run(what, 2), 5);
            due("run(" + what + ", 7)", x.run(what, 7), 1);
            x.see(1, 0);
            due("run(" + what + ", 2)", x.run(what, 2), -1);
            due("run(" + what + ", 7)", x.run(what, 7), -1);
            due("run(" + what + ", 0)", x.run(what, 0), 1);
            due("run(" + what + ", 5)", x.run(what, 5), 5);
            x.see(1, -1);
            due("run(" + what + ", 2)", x.run(what, 2), 7);
        }
    }

    private static void runLeavesWhatWasSeen() {
        CHECKS.at("(22) what was SEEN stays");
        for (int what = 0; what <= 2; what++) {
            LookBench x = twoOfThree();
            x.see(2, 0);
            due("run(" + what + ", 3)", x.run(what, 3), 3);
            due("partOf(0, 3)", x.partOf(0, 3), -1);
            due("partOf(1, 3)", x.partOf(1, 3), -1);
            due("partOf(2, 3)", x.partOf(2, 3), 0);
            due("sure()", x.sure(), -1);
            due("told(0)", x.told(0), 4);
            due("run(" + what + ", 0)", x.run(what, 0), 1);
        }
    }

    private static void runWhenSure() {
        CHECKS.at("(22) until SURE: at once");
        for (int what = 0; what <= 2; what++) {
            LookBench x = twoOfThree();
            due("run(" + what + ", 2)", x.run(what, 2), 7);
            looksAre(x, 0, 1, 2);
            x.see(0, 0);
            x.see(1, 0);
            due("run(" + what + ", 4)", x.run(what, 4), 0);
            looksAre(x);
            x.parts(2);
            x.system(x.some(3, 0, 0, 0));
            due("run(" + what + ", 0)", x.run(what, 0), 0);
            looksAre(x);
        }
    }

    private static void runOfNoPrice() {
        CHECKS.at("(22) LOOKS for PRICE 0");
        LookBench x = onlyPartOne(0, 0);
        for (int what = 0; what <= 2; what++) {
            due("run(" + what + ", 1)", x.run(what, 1), 0);
            looksAre(x, 0, 1);
        }
    }

    private static void runWithoutSystem() {
        CHECKS.at("(22) NONE without THE SYSTEM");
        LookBench x = Edges.ofParts(1);
        x.single(0);
        for (int what = 0; what <= 2; what++) {
            due("run(" + what + ", 1)", x.run(what, 1), -1);
        }
        looksAre(x);
        x.system(0);
        due("run(0, 1)", x.run(0, 1), 1);
        x.parts(1);
        due("run(0, 1)", x.run(0, 1), -1);
    }

    private static void lookedEnds() {
        CHECKS.at("(23) NONE if there is none such");
        LookBench x = Edges.ofParts(9);
        x.system(x.some(511, 0, 0, 9));
        for (int p = 8; p >= 0; p--) {
            x.order(p);
        }
        due("looked(0)", x.looked(0), -1);
        due("run(2, 511)", x.run(2, 511), 9);
        due("looked(-1)", x.looked(-1), -1);
        looksAre(x, 8, 7, 6, 5, 4, 3, 2, 1, 0);
        due("run(2, 255)", x.run(2, 255), 1);
        looksAre(x, 8);
        due("looked(8)", x.looked(8), -1);
    }

    private static void latestRun() {
        CHECKS.at("(23, 24) the latest run, whatever comes behind it");
        LookBench x = twoOfThree();
        x.order(2);
        x.run(2, 4);
        looksAre(x, 2, 0, 1);
        x.see(2, 1);
        x.ratios(false, true);
        x.part(2, 5, 5, 5);
        x.system(x.single(0));
        x.told(2);
        x.of(0, 0);
        looksAre(x, 2, 0, 1);
        x.run(0, 4);
        looksAre(x, 0);
    }

    private static void refusedRun() {
        CHECKS.at("(23, 24) a refused run is none: the one before it stays the latest");
        LookBench x = twoOfThree();
        x.run(0, 2);
        x.see(0, 1);
        due("run(3, 1)", x.run(3, 1), -1);
        due("run(0, 8)", x.run(0, 8), -1);
        due("run(0, 0)", x.run(0, 0), -1);
        looksAre(x, 0, 1, 2);
        // No promise says that new parts take the latest run away.
        due("parts(10)", x.parts(10), false);
        due("parts(1)", x.parts(1), true);
        due("run(0, 0)", x.run(0, 0), -1);
        looksAre(x, 0, 1, 2);
    }

    private static void aboutEach() {
        CHECKS.at("(24) NONE for others");
        LookBench x = Edges.ofParts(9);
        long[] first = {-1, 9, 0, -1, 0, 0, -1};
        for (int what = -1; what <= 5; what++) {
            due("about(" + what + ")", x.about(what), first[what + 1]);
        }
        for (int p = 0; p < 8; p++) {
            x.single(p);
        }
        x.system(x.single(8));
        x.ratios(false, false);
        x.run(2, 0);
        long[] then = {-1, 9, 9, 8, 9, 9, -1};
        for (int what = -1; what <= 5; what++) {
            due("about(" + what + ")", x.about(what), then[what + 1]);
        }
    }
}
