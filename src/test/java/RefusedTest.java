import java.util.Arrays;
import java.util.function.Supplier;
import java.util.function.ToLongFunction;

/** Each call that a promise refuses, one at a time on a bench of its own: its answer, and that it changes nothing. */
public final class RefusedTest {
    private static final Checks CHECKS = new Checks();

    public static void main(String[] args) {
        parts();
        part();
        single();
        row();
        side();
        some();
        dual();
        fullOfRules();
        system();
        says();
        differ();
        sets();
        set();
        see();
        partOf();
        told();
        of();
        order();
        ordered();
        run();
        looked();
        about();
        withoutSystem();
        CHECKS.end();
    }

    private static void refused(Supplier<LookBench> bench, String call, long want, ToLongFunction<LookBench> made) {
        LookBench x = bench.get();
        CHECKS.due(call, made.applyAsLong(x), want);
        CHECKS.due(call + " changes nothing", Picture.of(x).equals(Picture.of(bench.get())), true);
    }

    /** On the stirred bench: 3 parts, 7 rules, 8 settings, 3 ways, 3 cuts, an order of 2, a run of 2 looks. */
    private static void none(String call, ToLongFunction<LookBench> made) {
        refused(Edges::stirred, call, -1, made);
    }

    private static void other(String call, ToLongFunction<LookBench> made) {
        refused(Edges::stirred, call, -2, made);
    }

    private static void no(String call, ToLongFunction<LookBench> made) {
        refused(Edges::stirred, call, 0, made);
    }

    private static long asNumber(boolean answer) {
        return answer ? 1 : 0;
    }

    /** Numbers less than from or greater than to: just outside, and far outside. */
    private static int[] outside(int from, int to) {
        int[] all = new int[Edges.FAR.length + 2];
        System.arraycopy(Edges.FAR, 0, all, 2, Edges.FAR.length);
        all[0] = from - 1;
        all[1] = to + 1;
        int kept = 0;
        for (int a : all) {
            if (a < from || a > to) {
                all[kept++] = a;
            }
        }
        return Arrays.copyOf(all, kept);
    }

    private static void parts() {
        CHECKS.at("(2) False, changing nothing, for others");
        for (int n : outside(1, 9)) {
            no("parts(" + n + ")", x -> asNumber(x.parts(n)));
        }
    }

    private static void part() {
        CHECKS.at("(3) False, changing nothing, for others: no such part");
        for (int p : outside(0, 2)) {
            no("part(" + p + ", 9, 9, 9)", x -> asNumber(x.part(p, 9, 9, 9)));
        }
        CHECKS.at("(3) False, changing nothing, for others: g, f 1 .. 9");
        for (int a : outside(1, 9)) {
            no("part(0, " + a + ", 9, 9)", x -> asNumber(x.part(0, a, 9, 9)));
            no("part(0, 9, " + a + ", 9)", x -> asNumber(x.part(0, 9, a, 9)));
        }
        CHECKS.at("(3) False, changing nothing, for others: PRICE 0 .. 1000");
        for (int price : outside(0, 1000)) {
            no("part(0, 9, 9, " + price + ")", x -> asNumber(x.part(0, 9, 9, price)));
        }
    }

    private static void single() {
        CHECKS.at("(4) NONE: no such part");
        for (int p : outside(0, 2)) {
            none("single(" + p + ")", x -> x.single(p));
        }
    }

    private static void row() {
        CHECKS.at("(5) NONE for others");
        for (int a : outside(0, 6)) {
            none("row(" + a + ", 0)", x -> x.row(a, 0));
            none("row(0, " + a + ")", x -> x.row(0, a));
            none("row(" + a + ", " + a + ")", x -> x.row(a, a));
        }
    }

    private static void side() {
        CHECKS.at("(6) NONE for others");
        for (int a : outside(0, 6)) {
            none("side(" + a + ", 0)", x -> x.side(a, 0));
            none("side(0, " + a + ")", x -> x.side(0, a));
            none("side(" + a + ", " + a + ")", x -> x.side(a, a));
        }
    }

    private static void some() {
        CHECKS.at("(7) NONE: another set");
        for (int set : outside(0, 7)) {
            none("some(" + set + ", 0, 0, 1)", x -> x.some(set, 0, 0, 1));
        }
        CHECKS.at("(7) NONE: another width");
        for (int width : outside(0, 3)) {
            none("some(7, 0, " + width + ", 1)", x -> x.some(7, 0, width, 1));
        }
        CHECKS.at("(7) NONE: another k");
        for (int k : outside(0, 100)) {
            none("some(7, 0, 0, " + k + ")", x -> x.some(7, 0, 0, k));
            none("some(7, 511, 3, " + k + ")", x -> x.some(7, 511, 3, k));
        }
        CHECKS.at("(7) NONE: WORTHS below 0");
        for (long worths : new long[] {-1, -2, Edges.LEAST, Long.MIN_VALUE, Long.MIN_VALUE + 511}) {
            for (int width = 0; width <= 3; width++) {
                int told = width;
                none("some(7, " + worths + ", " + told + ", 1)", x -> x.some(7, worths, told, 1));
            }
        }
    }

    private static void dual() {
        CHECKS.at("(8) NONE for others");
        for (int a : outside(0, 6)) {
            none("dual(" + a + ")", x -> x.dual(a));
        }
    }

    private static void fullOfRules() {
        CHECKS.at("(4) NONE: there are 40 (so for all rules)");
        refused(Edges::full, "single(0)", -1, x -> x.single(0));
        refused(Edges::full, "row(0, 1)", -1, x -> x.row(0, 1));
        refused(Edges::full, "side(38, 39)", -1, x -> x.side(38, 39));
        refused(Edges::full, "some(3, 0, 0, 1)", -1, x -> x.some(3, 0, 0, 1));
        refused(Edges::full, "dual(39)", -1, x -> x.dual(39));
    }

    private static void system() {
        CHECKS.at("(9) False: there is none such");
        for (int rule : outside(0, 6)) {
            no("system(" + rule + ")", x -> asNumber(x.system(rule)));
        }
        for (int rule : outside(0, 39)) {
            refused(Edges::full, "system(" + rule + ")", 0, x -> asNumber(x.system(rule)));
        }
    }

    private static void says() {
        CHECKS.at("(10) NONE for others");
        for (int rule : outside(0, 6)) {
            none("says(" + rule + ", 7)", x -> x.says(rule, 7));
        }
        for (int set : outside(0, 7)) {
            none("says(6, " + set + ")", x -> x.says(6, set));
        }
    }

    private static void differ() {
        CHECKS.at("(11) NONE: there are none such");
        for (int a : outside(0, 6)) {
            none("differ(" + a + ", 0)", x -> x.differ(a, 0));
            none("differ(0, " + a + ")", x -> x.differ(0, a));
        }
    }

    private static void sets() {
        CHECKS.at("(12) NONE for others");
        for (int what : outside(0, 1)) {
            none("sets(" + what + ")", x -> x.sets(what));
        }
    }

    private static void set() {
        CHECKS.at("(13) NONE if there is none such");
        for (int a : outside(0, 1)) {
            none("set(" + a + ", 0)", x -> x.set(a, 0));
        }
        for (int i : outside(0, 2)) {
            none("set(0, " + i + ")", x -> x.set(0, i));
            none("set(1, " + i + ")", x -> x.set(1, i));
        }
    }

    private static void see() {
        CHECKS.at("(14) False for others: no such part");
        for (int p : outside(0, 2)) {
            no("see(" + p + ", 1)", x -> asNumber(x.see(p, 1)));
            no("see(" + p + ", 0)", x -> asNumber(x.see(p, 0)));
            no("see(" + p + ", -1)", x -> asNumber(x.see(p, -1)));
        }
        CHECKS.at("(14) False for others: no such how");
        for (int how : outside(-1, 1)) {
            no("see(0, " + how + ")", x -> asNumber(x.see(0, how)));
            no("see(2, " + how + ")", x -> asNumber(x.see(2, how)));
        }
    }

    private static void partOf() {
        CHECKS.at("(15) -2 for others");
        for (int p : outside(0, 2)) {
            other("partOf(" + p + ", 3)", x -> x.partOf(p, 3));
        }
        for (int what : outside(0, 3)) {
            other("partOf(0, " + what + ")", x -> x.partOf(0, what));
        }
    }

    private static void told() {
        CHECKS.at("(17) -2 for others");
        for (int what : outside(0, 8)) {
            other("told(" + what + ")", x -> x.told(what));
            refused(Edges::withoutSystem, "told(" + what + ")", -2, x -> x.told(what));
        }
    }

    private static void of() {
        CHECKS.at("(18) -2 for others");
        for (int p : outside(0, 2)) {
            other("of(" + p + ", 0)", x -> x.of(p, 0));
            other("of(" + p + ", 1)", x -> x.of(p, 1));
        }
        for (int what : outside(0, 1)) {
            other("of(0, " + what + ")", x -> x.of(0, what));
        }
        CHECKS.at("(18) -2 if it is SEEN");
        other("of(2, 0)", x -> x.of(2, 0));
        other("of(2, 1)", x -> x.of(2, 1));
    }

    private static void order() {
        CHECKS.at("(19) NONE: no such one");
        for (int p : outside(0, 2)) {
            none("order(" + p + ")", x -> x.order(p));
        }
        CHECKS.at("(19) NONE: it is there");
        none("order(1)", x -> x.order(1));
        none("order(0)", x -> x.order(0));
    }

    private static void ordered() {
        CHECKS.at("(21) NONE if there is none such");
        for (int i : outside(0, 1)) {
            none("ordered(" + i + ")", x -> x.ordered(i));
        }
    }

    private static void run() {
        CHECKS.at("(22) NONE: no such what");
        for (int what : outside(0, 2)) {
            none("run(" + what + ", 3)", x -> x.run(what, 3));
        }
        CHECKS.at("(22) NONE: no such SETTING");
        for (int setting : outside(0, 7)) {
            for (int what = 0; what <= 2; what++) {
                int plan = what;
                none("run(" + plan + ", " + setting + ")", x -> x.run(plan, setting));
            }
        }
        CHECKS.at("(22) NONE: one that isn't as it was SEEN");
        for (int setting = 4; setting <= 7; setting++) {
            int wrong = setting;
            none("run(0, " + wrong + ")", x -> x.run(0, wrong));
            none("run(1, " + wrong + ")", x -> x.run(1, wrong));
            none("run(2, " + wrong + ")", x -> x.run(2, wrong));
        }
    }

    private static void looked() {
        CHECKS.at("(23) NONE if there is none such");
        for (int i : outside(0, 1)) {
            none("looked(" + i + ")", x -> x.looked(i));
        }
    }

    private static void about() {
        CHECKS.at("(24) NONE for others");
        for (int what : outside(0, 4)) {
            none("about(" + what + ")", x -> x.about(what));
        }
    }

    private static void withoutSystem() {
        CHECKS.at("(12) NONE without one");
        refused(Edges::withoutSystem, "sets(0)", -1, x -> x.sets(0));
        refused(Edges::withoutSystem, "sets(1)", -1, x -> x.sets(1));
        CHECKS.at("(13) NONE if there is none such: without THE SYSTEM");
        refused(Edges::withoutSystem, "set(0, 0)", -1, x -> x.set(0, 0));
        refused(Edges::withoutSystem, "set(1, 0)", -1, x -> x.set(1, 0));
        CHECKS.at("(16) -2 without THE SYSTEM");
        refused(Edges::withoutSystem, "sure()", -2, x -> x.sure());
        CHECKS.at("(17) -2 of 1 to 8 also without THE SYSTEM");
        for (int what = 1; what <= 8; what++) {
            int told = what;
            refused(Edges::withoutSystem, "told(" + told + ")", -2, x -> x.told(told));
        }
        CHECKS.at("(18) -2 without THE SYSTEM");
        refused(Edges::withoutSystem, "of(0, 0)", -2, x -> x.of(0, 0));
        refused(Edges::withoutSystem, "of(0, 1)", -2, x -> x.of(0, 1));
        CHECKS.at("(22) NONE without THE SYSTEM");
        for (int what = 0; what <= 2; what++) {
            int plan = what;
            refused(Edges::withoutSystem, "run(" + plan + ", 2)", -1, x -> x.run(plan, 2));
        }
    }
}
