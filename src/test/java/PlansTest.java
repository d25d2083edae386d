import java.util.ArrayList;
import java.util.List;
import java.util.Random;

/**
 * The terms PLAN, MEAN, BEST, WORST, ORDER and GAIN by their own words: on few parts every PLAN that there is gets
 * made and measured; on up to nine parts the runs of all SETTINGS must, together, come to what is told.
 */
public final class PlansTest {
    private static final Checks CHECKS = new Checks();
    private static final Random RANDOM = new Random(8);

    /** A look, and how to go on; null where it is sure. */
    private record Plan(int part, Plan ifGood, Plan ifBad) {
    }

    private final LookBench x = new LookBench();
    private final int n;
    private final int[] g;
    private final int[] f;
    private final int[] prices;
    private final int[] seen;
    private final boolean[] good;
    private final List<Integer> order = new ArrayList<>();

    private PlansTest(int n) {
        this.n = n;
        g = new int[n];
        f = new int[n];
        prices = new int[n];
        seen = new int[n];
        good = new boolean[1 << n];
        x.parts(n);
    }

    public static void main(String[] args) {
        for (int drawn = 0; drawn < 800 && !CHECKS.anyWrong(); drawn++) {
            CHECKS.at("every plan, bench " + drawn);
            PlansTest test = new PlansTest(1 + drawn % 4);
            test.draw(drawn / 4 % 3);
            test.everyPlan();
        }
        for (int drawn = 0; drawn < 100 && !CHECKS.anyWrong(); drawn++) {
            CHECKS.at("all runs together, bench " + drawn);
            PlansTest test = new PlansTest(5 + drawn % 5);
            test.draw(Math.max(drawn / 5 % 3, test.n - 7));
            test.allRuns();
        }
        CHECKS.end();
    }

    private void draw(int looks) {
        int most = RANDOM.nextInt(4) == 0 ? 2 : RANDOM.nextInt(2) == 0 ? 5 : 1001;
        for (int p = 0; p < n; p++) {
            g[p] = 1 + RANDOM.nextInt(9);
            f[p] = 1 + RANDOM.nextInt(9);
            prices[p] = RANDOM.nextInt(most);
            seen[p] = -1;
            x.part(p, g[p], f[p], prices[p]);
        }
        drawSystem();
        for (int p = 0; p < looks && p < n; p++) {
            seen[p * 2 % n] = RANDOM.nextInt(2);
            x.see(p * 2 % n, seen[p * 2 % n]);
        }
        for (int i = RANDOM.nextInt(n + 1); i > 0; i--) {
            int p = RANDOM.nextInt(n);
            if (x.order(p) != -1) {
                order.add(p);
            }
        }
    }

    /** Two rules in a row, beside them a third, each of them of worths that all parts have. */
    private void drawSystem() {
        long[] worths = new long[3];
        int[] k = new int[3];
        for (int i = 0; i < 3; i++) {
            worths[i] = RANDOM.nextInt(1 << 3 * n);
            k[i] = 1 + RANDOM.nextInt(4 * n);
            x.some((1 << n) - 1, worths[i], 3, k[i]);
        }
        x.row(0, 1);
        x.side(2, 3);
        x.system(4);
        for (int s = 0; s < 1 << n; s++) {
            int[] sums = new int[3];
            for (int p = 0; p < n; p++) {
                for (int i = 0; i < 3; i++) {
                    sums[i] += in(p, s) ? (int) (worths[i] >> 3 * p) & 7 : 0;
                }
            }
            good[s] = sums[0] >= k[0] && sums[1] >= k[1] || sums[2] >= k[2];
        }
    }

    private static boolean in(int p, int set) {
        return (set >> p & 1) == 1;
    }

    private List<Integer> settings(int[] view) {
        List<Integer> found = new ArrayList<>();
        for (int s = 0; s < 1 << n; s++) {
            boolean fits = true;
            for (int p = 0; p < n; p++) {
                fits &= view[p] == -1 || view[p] == 1 == in(p, s);
            }
            if (fits) {
                found.add(s);
            }
        }
        return found;
    }

    private boolean isSure(int[] view) {
        List<Integer> all = settings(view);
        return all.stream().allMatch(s -> good[s] == good[all.get(0)]);
    }

    private long weight(int s) {
        long product = 1;
        for (int p = 0; p < n; p++) {
            product *= in(p, s) ? g[p] : f[p];
        }
        return product;
    }

    private static int[] with(int[] view, int p, int how) {
        int[] then = view.clone();
        then[p] = how;
        return then;
    }

    private List<Plan> plans(int[] view) {
        List<Plan> found = new ArrayList<>();
        if (isSure(view)) {
            found.add(null);
            return found;
        }
        for (int p = 0; p < n; p++) {
            if (view[p] == -1) {
                List<Plan> ifBad = plans(with(view, p, 0));
                for (Plan one : plans(with(view, p, 1))) {
                    for (Plan other : ifBad) {
                        found.add(new Plan(p, one, other));
                    }
                }
            }
        }
        return found;
    }

    private int priceIn(Plan plan, int s) {
        int sum = 0;
        for (Plan at = plan; at != null; at = in(at.part, s) ? at.ifGood : at.ifBad) {
            sum += prices[at.part];
        }
        return sum;
    }

    private long mean(Plan plan, int[] view) {
        return settings(view).stream().mapToLong(s -> weight(s) * priceIn(plan, s)).sum();
    }

    private long greatest(Plan plan) {
        return settings(seen).stream().mapToLong(s -> priceIn(plan, s)).max().orElseThrow();
    }

    private long best(int[] view) {
        return plans(view).stream().mapToLong(plan -> mean(plan, view)).min().orElseThrow();
    }

    private static int first(Plan plan) {
        return plan == null ? -1 : plan.part;
    }

    private Plan ofOrder(int[] view) {
        if (isSure(view)) {
            return null;
        }
        int next = -1;
        for (int p = n - 1; p >= 0; p--) {
            next = view[p] == -1 ? p : next;
        }
        for (int i = order.size() - 1; i >= 0; i--) {
            next = view[order.get(i)] == -1 ? order.get(i) : next;
        }
        return new Plan(next, ofOrder(with(view, next, 1)), ofOrder(with(view, next, 0)));
    }

    private void everyPlan() {
        List<Plan> all = plans(seen);
        long best = best(seen);
        long worst = all.stream().mapToLong(this::greatest).min().orElseThrow();
        CHECKS.due("told(2)", x.told(2), best);
        CHECKS.due("told(3)", x.told(3),
                all.stream().filter(plan -> mean(plan, seen) == best).mapToInt(PlansTest::first).min().orElseThrow());
        CHECKS.due("told(4)", x.told(4), worst);
        CHECKS.due("told(5)", x.told(5),
                all.stream().filter(plan -> greatest(plan) == worst).mapToInt(PlansTest::first).min().orElseThrow());
        CHECKS.due("told(7)", x.told(7), mean(ofOrder(seen), seen));
        CHECKS.due("told(8)", x.told(8), greatest(ofOrder(seen)));
        for (int p = 0; p < n; p++) {
            long gain = seen[p] != -1 ? -2 : best - best(with(seen, p, 1)) - best(with(seen, p, 0));
            CHECKS.due("of(" + p + ", 0)", x.of(p, 0), gain);
        }
        allRuns();
    }

    /** What the runs of all settings pay, together and at most, is what their plans were told to have. */
    private void allRuns() {
        long[] sums = new long[3];
        long[] most = new long[3];
        for (int s : settings(seen)) {
            for (int what = 0; what < 3; what++) {
                int paid = x.run(what, s);
                sums[what] += weight(s) * paid;
                most[what] = Math.max(most[what], paid);
            }
        }
        CHECKS.due("the mean of all run(0, ..)", sums[0], x.told(2));
        CHECKS.due("the greatest of all run(1, ..)", most[1], x.told(4));
        CHECKS.due("the mean of all run(2, ..)", sums[2], x.told(7));
        CHECKS.due("the greatest of all run(2, ..)", most[2], x.told(8));
        CHECKS.due("no mean is below BEST", x.told(2) <= Math.min(sums[1], sums[2]), true);
        CHECKS.due("no greatest price is below WORST", x.told(4) <= Math.min(most[0], most[2]), true);
        CHECKS.due("no mean is below BOUND", x.told(6) <= x.told(2), true);
        checkLooks(settings(seen).get(RANDOM.nextInt(settings(seen).size())));
    }

    /** The latest run's looks are different parts that were not seen, and their prices come to what it paid. */
    private void checkLooks(int s) {
        int paid = x.run(0, s);
        int[] view = seen.clone();
        int sum = 0;
        for (int i = 0; i < x.about(4); i++) {
            int p = x.looked(i);
            CHECKS.due("not sure before looked(" + i + ")", isSure(view), false);
            CHECKS.due("not seen before looked(" + i + ")", view[p], -1);
            view[p] = in(p, s) ? 1 : 0;
            sum += prices[p];
        }
        CHECKS.due("sure behind the last look", isSure(view), true);
        CHECKS.due("run(0, " + s + ")", paid, sum);
    }
}
