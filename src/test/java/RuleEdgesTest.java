/** The edges that the document names for promises 4 to 13: one method for each sentence. */
public final class RuleEdgesTest {
    private static final Checks CHECKS = new Checks();

    public static void main(String[] args) {
        leastAndGreatestPart();
        fortyRules();
        fortiethOfEachKind();
        rulesInThePlaceOfOthers();
        ruleOfItself();
        newestRule();
        emptyAndFullSet();
        leastAndGreatestK();
        widths();
        worthsFromTheLeastPartOn();
        worthsOfNothing();
        worthsThatComeToK();
        greatestWorths();
        widthOfNothing();
        dualOfTheUnchanging();
        dualOfADual();
        systemAnew();
        systemStaysAsRulesCome();
        saysOfTheLeastAndGreatestSetting();
        alikeRules();
        leastSettingThatDiffers();
        waysAndCutsOfTheUnchanging();
        waysAndCutsWhateverWasSeen();
        mostWaysAndCuts();
        setsByRisingNumbers();
        CHECKS.end();
    }

    private static void due(String call, long got, long want) {
        CHECKS.due(call, got, want);
    }

    private static void due(String call, boolean got, boolean want) {
        CHECKS.due(call, got, want);
    }

    private static LookBench nineSingles() {
        LookBench x = Edges.ofParts(9);
        for (int p = 0; p < 9; p++) {
            x.single(p);
        }
        return x;
    }

    private static void leastAndGreatestPart() {
        CHECKS.at("(4) no such part");
        LookBench x = Edges.ofParts(9);
        due("single(-1)", x.single(-1), -1);
        due("single(9)", x.single(9), -1);
        due("single(0)", x.single(0), 0);
        due("single(8)", x.single(8), 1);
        due("says(0, 1)", x.says(0, 1), 1);
        due("says(0, 510)", x.says(0, 510), 0);
        due("says(1, 256)", x.says(1, 256), 1);
        due("says(1, 255)", x.says(1, 255), 0);
    }

    private static void fortyRules() {
        CHECKS.at("(4) or there are 40 (so for all rules)");
        LookBench x = Edges.ofParts(2);
        for (int i = 0; i < 40; i++) {
            due("about(1)", x.about(1), i);
            due("rule " + i, i % 5 == 1 ? x.row(0, 0) : i % 5 == 2 ? x.side(0, 0) : i % 5 == 3 ? x.dual(0)
                    : i % 5 == 4 ? x.some(1, 0, 0, 1) : x.single(0), i);
        }
        due("about(1)", x.about(1), 40);
        due("single(0)", x.single(0), -1);
        due("row(0, 39)", x.row(0, 39), -1);
        due("side(0, 39)", x.side(0, 39), -1);
        due("some(1, 0, 0, 1)", x.some(1, 0, 0, 1), -1);
        due("dual(39)", x.dual(39), -1);
        due("about(1)", x.about(1), 40);
        for (int i = 1; i < 40; i++) {
            due("differ(0, " + i + ")", x.differ(0, i), -1);
        }
        due("system(39)", x.system(39), true);
        due("system(40)", x.system(40), false);
        due("about(2)", x.about(2), 39);
    }

    private static LookBench thirtyNine() {
        LookBench x = nineSingles();
        for (int i = 9; i < 39; i++) {
            due("single(4)", x.single(4), i);
        }
        return x;
    }

    private static void fortiethOfEachKind() {
        CHECKS.at("(4) RULES 0 .. 39: the last may be of each kind");
        LookBench x = thirtyNine();
        due("single(8)", x.single(8), 39);
        due("differ(39, 8)", x.differ(39, 8), -1);
        x = thirtyNine();
        due("row(0, 8)", x.row(0, 8), 39);
        due("differ(39, 8)", x.differ(39, 8), 256);
        x = thirtyNine();
        due("side(0, 8)", x.side(0, 8), 39);
        due("differ(39, 8)", x.differ(39, 8), 1);
        x = thirtyNine();
        due("some(511, 0, 0, 9)", x.some(511, 0, 0, 9), 39);
        due("differ(39, 8)", x.differ(39, 8), 256);
        due("says(39, 511)", x.says(39, 511), 1);
        due("says(39, 510)", x.says(39, 510), 0);
        x = thirtyNine();
        due("dual(8)", x.dual(8), 39);
        due("differ(39, 8)", x.differ(39, 8), -1);
    }

    /** Forty rules that are always good, then others with the same numbers: nothing of the first may be left. */
    private static void rulesInThePlaceOfOthers() {
        CHECKS.at("(2, 4) no rules: new ones take the numbers of those that were");
        LookBench x = Edges.ofParts(9);
        for (int i = 0; i < 40; i++) {
            due("some(0, 0, 0, 0)", x.some(0, 0, 0, 0), i);
        }
        x.parts(9);
        due("some(0, 0, 0, 0)", x.some(0, 0, 0, 0), 0);
        due("dual(0)", x.dual(0), 1);
        due("some(511, 0, 0, 10)", x.some(511, 0, 0, 10), 2);
        due("single(8)", x.single(8), 3);
        due("row(1, 3)", x.row(1, 3), 4);
        due("side(1, 3)", x.side(1, 3), 5);
        due("differ(1, 2)", x.differ(1, 2), -1);
        due("differ(1, 3)", x.differ(1, 3), 256);
        due("differ(1, 4)", x.differ(1, 4), -1);
        due("differ(3, 5)", x.differ(3, 5), -1);
        due("says(1, 511)", x.says(1, 511), 0);
        due("says(1, 0)", x.says(1, 0), 0);
    }

    private static void ruleOfItself() {
        CHECKS.at("(5, 6) of two rules: the same one twice");
        LookBench x = nineSingles();
        due("row(8, 8)", x.row(8, 8), 9);
        due("differ(8, 9)", x.differ(8, 9), -1);
        due("side(8, 8)", x.side(8, 8), 10);
        due("differ(8, 10)", x.differ(8, 10), -1);
    }

    private static void newestRule() {
        CHECKS.at("(5, 6, 8, 9) the newest rule is there, the next is not");
        LookBench x = nineSingles();
        due("row(0, 9)", x.row(0, 9), -1);
        due("row(9, 0)", x.row(9, 0), -1);
        due("row(0, 8)", x.row(0, 8), 9);
        due("side(10, 0)", x.side(10, 0), -1);
        due("side(0, 10)", x.side(0, 10), -1);
        due("side(9, 0)", x.side(9, 0), 10);
        due("dual(11)", x.dual(11), -1);
        due("dual(10)", x.dual(10), 11);
        due("system(12)", x.system(12), false);
        due("system(11)", x.system(11), true);
        due("says(12, 0)", x.says(12, 0), -1);
        due("says(11, 511)", x.says(11, 511), 1);
    }

    private static void emptyAndFullSet() {
        CHECKS.at("(7) parts of a set (0 and on)");
        LookBench x = Edges.ofParts(9);
        due("some(0, 0, 0, 0)", x.some(0, 0, 0, 0), 0);
        due("some(0, 0, 0, 1)", x.some(0, 0, 0, 1), 1);
        due("some(511, 0, 0, 9)", x.some(511, 0, 0, 9), 2);
        due("some(512, 0, 0, 1)", x.some(512, 0, 0, 1), -1);
        due("some(-1, 0, 0, 1)", x.some(-1, 0, 0, 1), -1);
        due("says(0, 0)", x.says(0, 0), 1);
        due("says(1, 511)", x.says(1, 511), 0);
        due("says(2, 511)", x.says(2, 511), 1);
        due("says(2, 255)", x.says(2, 255), 0);
    }

    private static void leastAndGreatestK() {
        CHECKS.at("(7) k (0 .. 100)");
        LookBench x = Edges.ofParts(9);
        due("some(511, 0, 0, -1)", x.some(511, 0, 0, -1), -1);
        due("some(511, 0, 0, 0)", x.some(511, 0, 0, 0), 0);
        due("some(511, 0, 0, 100)", x.some(511, 0, 0, 100), 1);
        due("some(511, 0, 0, 101)", x.some(511, 0, 0, 101), -1);
        due("says(0, 0)", x.says(0, 0), 1);
        due("says(0, 511)", x.says(0, 511), 1);
        due("says(1, 0)", x.says(1, 0), 0);
        due("says(1, 511)", x.says(1, 511), 0);
    }

    /** The number 0b110_101_011 in portions of one, two and three bits. */
    private static void widths() {
        CHECKS.at("(7) each as many bits as told (width 1 .. 3)");
        int[][] worths = {{1, 1, 0}, {3, 2, 2}, {3, 5, 6}};
        for (int width = 1; width <= 3; width++) {
            for (int p = 0; p < 3; p++) {
                LookBench x = Edges.ofParts(3);
                int worth = worths[width - 1][p];
                due("some(7, 427, " + width + ", " + worth + ")", x.some(7, 427, width, worth), 0);
                due("some(7, 427, " + width + ", " + (worth + 1) + ")", x.some(7, 427, width, worth + 1), 1);
                due("says(0, " + (1 << p) + ")", x.says(0, 1 << p), 1);
                due("says(1, " + (1 << p) + ")", x.says(1, 1 << p), 0);
            }
        }
        LookBench x = Edges.ofParts(3);
        due("some(7, 427, 4, 1)", x.some(7, 427, 4, 1), -1);
        due("some(7, 427, -1, 1)", x.some(7, 427, -1, 1), -1);
    }

    private static void worthsFromTheLeastPartOn() {
        CHECKS.at("(7) WORTHS from the part that is the least on");
        LookBench x = Edges.ofParts(9);
        // The set is parts 3, 5 and 8: they take 1, 2 and 4 in turn, no other part takes any.
        due("some(296, 273, 3, 1)", x.some(296, 0b100_010_001, 3, 1), 0);
        due("some(296, 273, 3, 2)", x.some(296, 0b100_010_001, 3, 2), 1);
        due("some(296, 273, 3, 4)", x.some(296, 0b100_010_001, 3, 4), 2);
        due("some(296, 273, 3, 7)", x.some(296, 0b100_010_001, 3, 7), 3);
        due("says(0, 511 - 296)", x.says(0, 511 - 296), 0);
        due("says(0, 8)", x.says(0, 8), 1);
        due("says(1, 8)", x.says(1, 8), 0);
        due("says(1, 32)", x.says(1, 32), 1);
        due("says(2, 40)", x.says(2, 40), 0);
        due("says(2, 256)", x.says(2, 256), 1);
        due("says(3, 296)", x.says(3, 296), 1);
        due("says(3, 511 - 8)", x.says(3, 511 - 8), 0);
    }

    private static void worthsOfNothing() {
        CHECKS.at("(7) WORTHS below 0 are refused, 0 is not");
        LookBench x = Edges.ofParts(2);
        for (int width = 0; width <= 3; width++) {
            due("some(3, -1, " + width + ", 1)", x.some(3, -1, width, 1), -1);
        }
        due("some(3, 0, 3, 0)", x.some(3, 0, 3, 0), 0);
        due("some(3, 0, 3, 1)", x.some(3, 0, 3, 1), 1);
        due("says(0, 0)", x.says(0, 0), 1);
        due("says(1, 3)", x.says(1, 3), 0);
    }

    private static void worthsThatComeToK() {
        CHECKS.at("(7) that come to k at least");
        LookBench x = Edges.ofParts(3);
        due("some(7, 0b11_10_01, 2, 3)", x.some(7, 0b11_10_01, 2, 3), 0);
        int[] due = {0, 0, 0, 1, 1, 1, 1, 1};
        for (int s = 0; s < 8; s++) {
            due("says(0, " + s + ")", x.says(0, s), due[s]);
        }
    }

    private static void greatestWorths() {
        CHECKS.at("(7) WORTHS in a number: all bits of it");
        LookBench x = Edges.ofParts(9);
        due("some(511, MAX, 3, 63)", x.some(511, Long.MAX_VALUE, 3, 63), 0);
        due("some(511, MAX, 3, 64)", x.some(511, Long.MAX_VALUE, 3, 64), 1);
        due("says(0, 511)", x.says(0, 511), 1);
        due("says(0, 510)", x.says(0, 510), 0);
        due("says(0, 255)", x.says(0, 255), 0);
        due("says(1, 511)", x.says(1, 511), 0);
        // Only the ninth part's bits, and bits behind them that belong to no part.
        due("some(511, 7 << 24, 3, 7)", x.some(511, 7L << 24, 3, 7), 2);
        due("some(511, all but 27 bits, 3, 1)", x.some(511, Long.MAX_VALUE - ((1L << 27) - 1), 3, 1), 3);
        due("says(2, 256)", x.says(2, 256), 1);
        due("says(2, 255)", x.says(2, 255), 0);
        due("says(3, 511)", x.says(3, 511), 0);
    }

    private static void widthOfNothing() {
        CHECKS.at("(7) (width 0: each is worth 1.)");
        LookBench x = Edges.ofParts(9);
        due("some(511, 0, 0, 5)", x.some(511, 0, 0, 5), 0);
        due("some(511, MAX, 0, 5)", x.some(511, Long.MAX_VALUE, 0, 5), 1);
        due("some(511, 0b11, 0, 5)", x.some(511, 3, 0, 5), 2);
        due("differ(0, 1)", x.differ(0, 1), -1);
        due("differ(0, 2)", x.differ(0, 2), -1);
        due("says(0, 31)", x.says(0, 31), 1);
        due("says(0, 480)", x.says(0, 480), 0);
        due("some(288, 0, 0, 1)", x.some(288, 0, 0, 1), 3);
        due("says(3, 511 - 288)", x.says(3, 511 - 288), 0);
        due("says(3, 256)", x.says(3, 256), 1);
    }

    private static void dualOfTheUnchanging() {
        CHECKS.at("(8) good where that one, all parts turned about, is not: of one that is always good, and never");
        LookBench x = Edges.ofParts(9);
        x.some(0, 0, 0, 0);
        x.some(0, 0, 0, 1);
        due("dual(0)", x.dual(0), 2);
        due("dual(1)", x.dual(1), 3);
        due("differ(2, 1)", x.differ(2, 1), -1);
        due("differ(3, 0)", x.differ(3, 0), -1);
        due("says(2, 511)", x.says(2, 511), 0);
        due("says(3, 0)", x.says(3, 0), 1);
    }

    private static void dualOfADual() {
        CHECKS.at("(8) the DUAL of a DUAL");
        LookBench x = Edges.ofParts(9);
        x.some(511, 0b001_010_011_100_101_110_111_000_001L, 3, 11);
        due("dual(0)", x.dual(0), 1);
        due("dual(1)", x.dual(1), 2);
        due("differ(0, 2)", x.differ(0, 2), -1);
        // The worths come to 29: that the bad ones come to less than 11 is that the good ones come to more than 18.
        x.some(511, 0b001_010_011_100_101_110_111_000_001L, 3, 29 - 11 + 1);
        due("differ(1, 3)", x.differ(1, 3), -1);
    }

    private static void systemAnew() {
        CHECKS.at("(9) a rule becomes THE SYSTEM; false: there is none such");
        LookBench x = nineSingles();
        due("system(-1)", x.system(-1), false);
        due("system(9)", x.system(9), false);
        due("about(2)", x.about(2), -1);
        due("system(0)", x.system(0), true);
        due("about(2)", x.about(2), 0);
        due("told(3)", x.told(3), 0);
        due("system(-1)", x.system(-1), false);
        due("system(9)", x.system(9), false);
        due("about(2)", x.about(2), 0);
        due("system(8)", x.system(8), true);
        due("about(2)", x.about(2), 8);
        due("told(3)", x.told(3), 8);
        due("system(8)", x.system(8), true);
        due("told(3)", x.told(3), 8);
    }

    private static void systemStaysAsRulesCome() {
        CHECKS.at("(9) THE SYSTEM stays as rules come");
        LookBench x = nineSingles();
        x.system(8);
        due("told(2)", x.told(2), 512);
        due("row(0, 8)", x.row(0, 8), 9);
        due("about(2)", x.about(2), 8);
        due("told(2)", x.told(2), 512);
        due("set(0, 0)", x.set(0, 0), 256);
    }

    private static void saysOfTheLeastAndGreatestSetting() {
        CHECKS.at("(10) 1, 0. NONE for others");
        LookBench x = nineSingles();
        due("says(0, 0)", x.says(0, 0), 0);
        due("says(8, 511)", x.says(8, 511), 1);
        due("says(8, 512)", x.says(8, 512), -1);
        due("says(8, -1)", x.says(8, -1), -1);
        due("says(9, 511)", x.says(9, 511), -1);
        due("says(-1, 511)", x.says(-1, 511), -1);
        due("says(8, 64)", x.says(8, 64), 0);
        due("says(6, 64)", x.says(6, 64), 1);
        due("says(6, 63)", x.says(6, 63), 0);
    }

    private static void alikeRules() {
        CHECKS.at("(11) NONE they do (or there are none such)");
        LookBench x = nineSingles();
        due("differ(8, 8)", x.differ(8, 8), -1);
        due("differ(9, 9)", x.differ(9, 9), -1);
        due("differ(-1, -1)", x.differ(-1, -1), -1);
        due("differ(0, 9)", x.differ(0, 9), -1);
        due("differ(-1, 8)", x.differ(-1, 8), -1);
        due("some(256, 0, 0, 1)", x.some(256, 0, 0, 1), 9);
        due("differ(8, 9)", x.differ(8, 9), -1);
        due("differ(9, 8)", x.differ(9, 8), -1);
    }

    private static void leastSettingThatDiffers() {
        CHECKS.at("(11) else the least SETTING where they don't");
        LookBench x = nineSingles();
        x.some(511, 0, 0, 0);
        x.some(511, 0, 0, 9);
        x.some(511, 0, 0, 10);
        due("differ(9, 10)", x.differ(9, 10), 0);
        due("differ(10, 11)", x.differ(10, 11), 511);
        due("differ(11, 10)", x.differ(11, 10), 511);
        due("differ(8, 10)", x.differ(8, 10), 256);
        due("differ(6, 7)", x.differ(6, 7), 64);
        due("differ(0, 8)", x.differ(0, 8), 1);
    }

    private static void waysAndCutsOfTheUnchanging() {
        CHECKS.at("(12, 13) WAYS and CUTS of a system that is always good, and never");
        LookBench x = Edges.ofParts(9);
        x.some(511, 0, 0, 0);
        x.some(511, 0, 0, 10);
        x.system(0);
        due("sets(0)", x.sets(0), 1);
        due("set(0, 0)", x.set(0, 0), 0);
        due("set(0, 1)", x.set(0, 1), -1);
        due("sets(1)", x.sets(1), 0);
        due("set(1, 0)", x.set(1, 0), -1);
        x.system(1);
        due("sets(0)", x.sets(0), 0);
        due("set(0, 0)", x.set(0, 0), -1);
        due("sets(1)", x.sets(1), 1);
        due("set(1, 0)", x.set(1, 0), 0);
        due("set(1, 1)", x.set(1, 1), -1);
    }

    private static void waysAndCutsWhateverWasSeen() {
        CHECKS.at("(12, 13) WAYS and CUTS are THE SYSTEM's, whatever was SEEN");
        LookBench x = nineSingles();
        x.system(x.row(0, 8));
        for (int how = -1; how <= 1; how++) {
            x.see(0, how);
            due("sets(0)", x.sets(0), 1);
            due("set(0, 0)", x.set(0, 0), 257);
            due("sets(1)", x.sets(1), 2);
            due("set(1, 0)", x.set(1, 0), 1);
            due("set(1, 1)", x.set(1, 1), 256);
        }
    }

    private static void mostWaysAndCuts() {
        CHECKS.at("(12) how many: the most there can be");
        LookBench x = Edges.ofParts(9);
        x.system(x.some(511, 0, 0, 5));
        due("sets(0)", x.sets(0), 126);
        due("sets(1)", x.sets(1), 126);
        due("set(0, 0)", x.set(0, 0), 31);
        due("set(0, 125)", x.set(0, 125), 496);
        due("set(0, 126)", x.set(0, 126), -1);
        due("set(1, 125)", x.set(1, 125), 496);
        due("set(1, 126)", x.set(1, 126), -1);
        x.system(x.some(511, 0, 0, 1));
        due("sets(0)", x.sets(0), 9);
        due("set(0, 8)", x.set(0, 8), 256);
        due("sets(1)", x.sets(1), 1);
        due("set(1, 0)", x.set(1, 0), 511);
        due("sets(-1)", x.sets(-1), -1);
        due("sets(2)", x.sets(2), -1);
    }

    private static void setsByRisingNumbers() {
        CHECKS.at("(13) by rising numbers. NONE if there is none such");
        LookBench x = nineSingles();
        // Part 8, or part 7 with 0, or parts 1 and 2 and 3: 14, 129, 256.
        due("row(0, 7)", x.row(0, 7), 9);
        due("some(14, 0, 0, 3)", x.some(14, 0, 0, 3), 10);
        due("side(9, 10)", x.side(9, 10), 11);
        due("side(8, 11)", x.side(8, 11), 12);
        x.system(12);
        int[] ways = {-1, 14, 129, 256, -1};
        int[] cuts = {-1, 256 + 1 + 2, 256 + 1 + 4, 256 + 1 + 8, 256 + 128 + 2, 256 + 128 + 4, 256 + 128 + 8, -1};
        for (int i = -1; i <= 3; i++) {
            due("set(0, " + i + ")", x.set(0, i), ways[i + 1]);
        }
        for (int i = -1; i <= 6; i++) {
            due("set(1, " + i + ")", x.set(1, i), cuts[i + 1]);
        }
        due("set(2, 0)", x.set(2, 0), -1);
        due("set(-1, 0)", x.set(-1, 0), -1);
    }
}
