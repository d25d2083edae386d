/** The edges that the document names for promises 1, 2, 3, 14 and 15: one method for each sentence. */
public final class PartEdgesTest {
    private static final Checks CHECKS = new Checks();

    public static void main(String[] args) {
        newObjectHasOnePart();
        newObjectHasNoRules();
        newObjectHasNoSystem();
        newObjectHasSeenNothing();
        newObjectHasAnEmptyOrder();
        newObjectHasNoRun();
        objectsAreApart();
        lastCall();
        fewestAndMostParts();
        partsAreAsAtFirst();
        partsLeaveNoRules();
        partsLeaveNoSystem();
        partsLeaveNothingSeen();
        partsLeaveAnEmptyOrder();
        leastAndGreatestChances();
        leastAndGreatestPrice();
        partChangesThatPartAlone();
        partLeavesTheRest();
        seenAnew();
        seenAsNothingAgain();
        seenStaysApart();
        partOfEachKind();
        CHECKS.end();
    }

    private static void due(String call, long got, long want) {
        CHECKS.due(call, got, want);
    }

    private static void due(String call, boolean got, boolean want) {
        CHECKS.due(call, got, want);
    }

    private static void asAtFirst(LookBench x, int p) {
        due("partOf(" + p + ", 0)", x.partOf(p, 0), 1);
        due("partOf(" + p + ", 1)", x.partOf(p, 1), 1);
        due("partOf(" + p + ", 2)", x.partOf(p, 2), 1);
        due("partOf(" + p + ", 3)", x.partOf(p, 3), -1);
    }

    private static void newObjectHasOnePart() {
        CHECKS.at("(1) One part");
        LookBench x = new LookBench();
        due("about(0)", x.about(0), 1);
        asAtFirst(x, 0);
        due("partOf(1, 0)", x.partOf(1, 0), -2);
        due("part(1, 1, 1, 1)", x.part(1, 1, 1, 1), false);
        due("see(1, 1)", x.see(1, 1), false);
        due("order(1)", x.order(1), -1);
        due("single(1)", x.single(1), -1);
        due("some(2, 0, 0, 1)", x.some(2, 0, 0, 1), -1);
        due("told(0)", x.told(0), 2);
        due("ratios(false, false)", x.ratios(false, false), 1);
        due("some(1, 0, 0, 1)", x.some(1, 0, 0, 1), 0);
        due("says(0, 1)", x.says(0, 1), 1);
        due("says(0, 2)", x.says(0, 2), -1);
    }

    private static void newObjectHasNoRules() {
        CHECKS.at("(1) no rules");
        LookBench x = new LookBench();
        due("about(1)", x.about(1), 0);
        due("says(0, 0)", x.says(0, 0), -1);
        due("differ(0, 0)", x.differ(0, 0), -1);
        due("row(0, 0)", x.row(0, 0), -1);
        due("side(0, 0)", x.side(0, 0), -1);
        due("dual(0)", x.dual(0), -1);
        due("system(0)", x.system(0), false);
        due("single(0)", x.single(0), 0);
    }

    private static void newObjectHasNoSystem() {
        CHECKS.at("(1) no SYSTEM");
        LookBench x = new LookBench();
        due("about(2)", x.about(2), -1);
        due("sure()", x.sure(), -2);
        due("single(0)", x.single(0), 0);
        due("about(2)", x.about(2), -1);
        due("sure()", x.sure(), -2);
        due("told(1)", x.told(1), -2);
        due("sets(0)", x.sets(0), -1);
    }

    private static void newObjectHasSeenNothing() {
        CHECKS.at("(1) nothing SEEN");
        LookBench x = new LookBench();
        due("partOf(0, 3)", x.partOf(0, 3), -1);
        x.system(x.single(0));
        due("sure()", x.sure(), -1);
        due("of(0, 1)", x.of(0, 1), 2);
    }

    private static void newObjectHasAnEmptyOrder() {
        CHECKS.at("(1) an empty ORDER");
        LookBench x = new LookBench();
        due("about(3)", x.about(3), 0);
        due("ordered(0)", x.ordered(0), -1);
        due("order(0)", x.order(0), 1);
    }

    private static void newObjectHasNoRun() {
        CHECKS.at("(1, 24) no LOOKS, as there was no run");
        LookBench x = new LookBench();
        due("about(4)", x.about(4), 0);
        due("looked(0)", x.looked(0), -1);
    }

    private static void objectsAreApart() {
        CHECKS.at("(1) a new object, whatever others were told");
        Edges.stirred().told(2);
        LookBench x = new LookBench();
        String picture = Picture.of(x);
        LookBench y = Edges.stirred();
        y.see(0, 1);
        y.parts(9);
        due("the picture stays", Picture.of(x).equals(picture), true);
        due("the picture of a new one", Picture.of(new LookBench()).equals(picture), true);
    }

    private static void lastCall() {
        CHECKS.at("(What it is) at most 512 calls");
        LookBench x = new LookBench();
        x.parts(9);
        x.system(x.some(511, 0, 0, 5));
        for (int call = 4; call <= 511; call++) {
            x.see(call % 9, call % 3 - 1);
        }
        due("the 512th call: partOf(7, 3)", x.partOf(7, 3), 511 % 3 - 1);
    }

    private static void fewestAndMostParts() {
        CHECKS.at("(2) n parts (1 .. 9)");
        LookBench x = new LookBench();
        for (int n = 1; n <= 9; n++) {
            due("parts(" + n + ")", x.parts(n), true);
            due("about(0)", x.about(0), n);
            due("told(0)", x.told(0), 1 << n);
            due("single(" + n + ")", x.single(n), -1);
            due("single(" + (n - 1) + ")", x.single(n - 1), 0);
            due("says(0, all)", x.says(0, (1 << n) - 1), 1);
            due("says(0, all and one more)", x.says(0, 1 << n), -1);
            due("partOf(" + n + ", 0)", x.partOf(n, 0), -2);
            asAtFirst(x, n - 1);
        }
        due("parts(10)", x.parts(10), false);
        due("about(0)", x.about(0), 9);
        due("parts(1)", x.parts(1), true);
        due("parts(0)", x.parts(0), false);
        due("about(0)", x.about(0), 1);
    }

    private static void partsAreAsAtFirst() {
        CHECKS.at("(2) as at first");
        LookBench x = Edges.greatest(5);
        due("parts(9)", x.parts(9), true);
        for (int p = 0; p < 9; p++) {
            asAtFirst(x, p);
        }
        due("told(0)", x.told(0), 512);
        x.part(8, 2, 3, 4);
        due("parts(1)", x.parts(1), true);
        due("parts(9)", x.parts(9), true);
        asAtFirst(x, 8);
    }

    private static void partsLeaveNoRules() {
        CHECKS.at("(2) no rules");
        LookBench x = Edges.full();
        due("parts(2)", x.parts(2), true);
        due("about(1)", x.about(1), 0);
        due("says(0, 0)", x.says(0, 0), -1);
        due("says(39, 0)", x.says(39, 0), -1);
        due("dual(39)", x.dual(39), -1);
        for (int i = 0; i < 40; i++) {
            due("single(1)", x.single(1), i);
        }
        due("differ(0, 39)", x.differ(0, 39), -1);
    }

    private static void partsLeaveNoSystem() {
        CHECKS.at("(2) no SYSTEM");
        LookBench x = Edges.stirred();
        due("parts(3)", x.parts(3), true);
        due("about(2)", x.about(2), -1);
        due("sure()", x.sure(), -2);
        for (int i = 0; i < 7; i++) {
            due("single(0)", x.single(0), i);
        }
        due("about(2)", x.about(2), -1);
        due("sure()", x.sure(), -2);
        due("told(2)", x.told(2), -2);
    }

    private static void partsLeaveNothingSeen() {
        CHECKS.at("(2) nothing SEEN");
        LookBench x = Edges.ofParts(9);
        x.see(0, 1);
        x.see(8, 0);
        due("parts(1)", x.parts(1), true);
        due("partOf(0, 3)", x.partOf(0, 3), -1);
        due("told(0)", x.told(0), 2);
        due("parts(9)", x.parts(9), true);
        due("partOf(8, 3)", x.partOf(8, 3), -1);
        x.system(x.single(8));
        due("sure()", x.sure(), -1);
        due("run(0, 511)", x.run(0, 511), 1);
    }

    private static void partsLeaveAnEmptyOrder() {
        CHECKS.at("(2) an empty ORDER");
        LookBench x = Edges.ofParts(9);
        due("ratios(false, false)", x.ratios(false, false), 9);
        due("parts(9)", x.parts(9), true);
        due("about(3)", x.about(3), 0);
        due("ordered(0)", x.ordered(0), -1);
        due("order(8)", x.order(8), 1);
        due("parts(2)", x.parts(2), true);
        due("about(3)", x.about(3), 0);
        due("order(1)", x.order(1), 1);
    }

    private static void leastAndGreatestChances() {
        CHECKS.at("(3) g, f 1 .. 9");
        LookBench x = Edges.ofParts(9);
        for (int p = 0; p < 9; p++) {
            due("part(" + p + ", 1, 9, 1)", x.part(p, 1, 9, 1), true);
            due("partOf(" + p + ", 0)", x.partOf(p, 0), 1);
            due("partOf(" + p + ", 1)", x.partOf(p, 1), 9);
        }
        due("told(0)", x.told(0), 1000000000L);
        for (int p = 0; p < 9; p++) {
            due("part(" + p + ", 9, 1, 1)", x.part(p, 9, 1, 1), true);
            due("partOf(" + p + ", 0)", x.partOf(p, 0), 9);
            due("partOf(" + p + ", 1)", x.partOf(p, 1), 1);
        }
        for (int wrong : new int[] {0, 10}) {
            due("part(4, " + wrong + ", 2, 2)", x.part(4, wrong, 2, 2), false);
            due("part(4, 2, " + wrong + ", 2)", x.part(4, 2, wrong, 2), false);
        }
        due("told(0)", x.told(0), 1000000000L);
    }

    private static void leastAndGreatestPrice() {
        CHECKS.at("(3) PRICE 0 .. 1000");
        LookBench x = new LookBench();
        x.system(x.single(0));
        due("part(0, 1, 1, 0)", x.part(0, 1, 1, 0), true);
        due("partOf(0, 2)", x.partOf(0, 2), 0);
        due("told(4)", x.told(4), 0);
        due("part(0, 1, 1, 1000)", x.part(0, 1, 1, 1000), true);
        due("partOf(0, 2)", x.partOf(0, 2), 1000);
        due("told(4)", x.told(4), 1000);
        due("part(0, 1, 1, 1001)", x.part(0, 1, 1, 1001), false);
        due("part(0, 1, 1, -1)", x.part(0, 1, 1, -1), false);
        due("partOf(0, 2)", x.partOf(0, 2), 1000);
        due("told(4)", x.told(4), 1000);
    }

    private static void partChangesThatPartAlone() {
        CHECKS.at("(3) a part's g, f, PRICE");
        LookBench x = Edges.ofParts(3);
        due("part(1, 2, 3, 4)", x.part(1, 2, 3, 4), true);
        asAtFirst(x, 0);
        asAtFirst(x, 2);
        due("partOf(1, 0)", x.partOf(1, 0), 2);
        due("partOf(1, 1)", x.partOf(1, 1), 3);
        due("partOf(1, 2)", x.partOf(1, 2), 4);
        due("partOf(1, 3)", x.partOf(1, 3), -1);
    }

    private static void partLeavesTheRest() {
        CHECKS.at("(3) nothing but g, f, PRICE");
        LookBench x = Edges.stirred();
        due("part(2, 1, 8, 0)", x.part(2, 1, 8, 0), true);
        due("partOf(2, 3)", x.partOf(2, 3), 0);
        due("about(1)", x.about(1), 7);
        due("about(2)", x.about(2), 6);
        due("about(3)", x.about(3), 2);
        due("ordered(0)", x.ordered(0), 1);
        due("told(0)", x.told(0), 5 * 5 * 8);
    }

    private static void seenAnew() {
        CHECKS.at("(14) GOOD (how 1), BAD (0)");
        LookBench x = Edges.ofParts(9);
        for (int p = 0; p < 9; p++) {
            x.part(p, 3, 5, 1);
        }
        due("see(8, 1)", x.see(8, 1), true);
        due("told(0)", x.told(0), 3L << 24);
        due("see(8, 1)", x.see(8, 1), true);
        due("told(0)", x.told(0), 3L << 24);
        due("see(8, 0)", x.see(8, 0), true);
        due("partOf(8, 3)", x.partOf(8, 3), 0);
        due("told(0)", x.told(0), 5L << 24);
        due("see(0, 1)", x.see(0, 1), true);
        due("told(0)", x.told(0), 15L << 21);
    }

    private static void seenAsNothingAgain() {
        CHECKS.at("(14) or nothing again (NONE)");
        LookBench x = Edges.ofParts(2);
        x.part(0, 3, 5, 1);
        due("see(0, -1)", x.see(0, -1), true);
        due("partOf(0, 3)", x.partOf(0, 3), -1);
        for (int how = 0; how <= 1; how++) {
            due("see(0, " + how + ")", x.see(0, how), true);
            due("told(0)", x.told(0), how == 1 ? 6 : 10);
            due("see(0, -1)", x.see(0, -1), true);
            due("partOf(0, 3)", x.partOf(0, 3), -1);
            due("told(0)", x.told(0), 16);
        }
    }

    private static void seenStaysApart() {
        CHECKS.at("(14) a part is SEEN, the others are not");
        LookBench x = Edges.ofParts(9);
        due("see(0, 1)", x.see(0, 1), true);
        due("see(8, 0)", x.see(8, 0), true);
        for (int p = 0; p < 9; p++) {
            due("partOf(" + p + ", 3)", x.partOf(p, 3), p == 0 ? 1 : p == 8 ? 0 : -1);
        }
        due("see(8, -1)", x.see(8, -1), true);
        due("partOf(0, 3)", x.partOf(0, 3), 1);
        due("partOf(8, 3)", x.partOf(8, 3), -1);
    }

    private static void partOfEachKind() {
        CHECKS.at("(15) 0 g, 1 f, 2 PRICE, 3 how it is SEEN; -2 for others");
        LookBench x = Edges.ofParts(9);
        x.part(8, 7, 6, 500);
        long[] due = {-2, 7, 6, 500, -1, -2};
        for (int what = -1; what <= 4; what++) {
            due("partOf(8, " + what + ")", x.partOf(8, what), due[what + 1]);
        }
        due("partOf(9, 0)", x.partOf(9, 0), -2);
        due("partOf(9, 3)", x.partOf(9, 3), -2);
        due("partOf(-1, 0)", x.partOf(-1, 0), -2);
        due("partOf(-1, 3)", x.partOf(-1, 3), -2);
        x.see(8, 0);
        due("partOf(8, 3)", x.partOf(8, 3), 0);
        x.see(8, 1);
        due("partOf(8, 3)", x.partOf(8, 3), 1);
    }
}
