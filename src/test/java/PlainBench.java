import java.util.ArrayList;
import java.util.HashMap;
import java.util.List;
import java.util.Map;

/**
 * The document's words taken one by one, without any thought for speed: it holds rules as trees, and goes through
 * all settings for each question. It uses nothing of what follows from the words (that more good parts never spoil).
 */
final class PlainBench {
    private interface Rule {
        boolean good(int setting);
    }

    private int n;
    private int[] g;
    private int[] f;
    private int[] price;
    private int[] seen;
    private List<Rule> rules;
    private int system;
    private List<Integer> order;
    private List<Integer> looks = new ArrayList<>();
    private final Map<String, Long> bestOf = new HashMap<>();
    private final Map<String, Long> worstOf = new HashMap<>();
    private final Map<String, Integer> sureOf = new HashMap<>();

    PlainBench() {
        parts(1);
    }

    private void changed() {
        bestOf.clear();
        worstOf.clear();
        sureOf.clear();
    }

    boolean parts(int count) {
        if (count < 1 || count > 9) {
            return false;
        }
        n = count;
        g = new int[n];
        f = new int[n];
        price = new int[n];
        seen = new int[n];
        for (int p = 0; p < n; p++) {
            g[p] = 1;
            f[p] = 1;
            price[p] = 1;
            seen[p] = -1;
        }
        rules = new ArrayList<>();
        system = -1;
        order = new ArrayList<>();
        changed();
        return true;
    }

    private boolean hasPart(int p) {
        return p >= 0 && p < n;
    }

    private boolean hasRule(int a) {
        return a >= 0 && a < rules.size();
    }

    private boolean hasSetting(int s) {
        return s >= 0 && s < settings();
    }

    private int settings() {
        return 1 << n;
    }

    private static boolean in(int p, int set) {
        return (set & (1 << p)) != 0;
    }

    boolean part(int p, int newG, int newF, int newPrice) {
        if (!hasPart(p) || newG < 1 || newG > 9 || newF < 1 || newF > 9 || newPrice < 0 || newPrice > 1000) {
            return false;
        }
        g[p] = newG;
        f[p] = newF;
        price[p] = newPrice;
        changed();
        return true;
    }

    private int add(Rule rule) {
        if (rules.size() == 40) {
            return -1;
        }
        rules.add(rule);
        return rules.size() - 1;
    }

    int single(int p) {
        return hasPart(p) ? add(s -> in(p, s)) : -1;
    }

    int row(int a, int b) {
        if (!hasRule(a) || !hasRule(b)) {
            return -1;
        }
        Rule x = rules.get(a);
        Rule y = rules.get(b);
        return add(s -> x.good(s) && y.good(s));
    }

    int side(int a, int b) {
        if (!hasRule(a) || !hasRule(b)) {
            return -1;
        }
        Rule x = rules.get(a);
        Rule y = rules.get(b);
        return add(s -> x.good(s) || y.good(s));
    }

    int some(int set, long worths, int width, int k) {
        if (!hasSetting(set) || worths < 0 || width < 0 || width > 3 || k < 0 || k > 100) {
            return -1;
        }
        List<Integer> members = new ArrayList<>();
        for (int p = 0; p < n; p++) {
            if (in(p, set)) {
                members.add(p);
            }
        }
        return add(s -> {
            long sum = 0;
            for (int i = 0; i < members.size(); i++) {
                long worth = width == 0 ? 1 : (worths >> (i * width)) % (1L << width);
                sum += in(members.get(i), s) ? worth : 0;
            }
            return sum >= k;
        });
    }

    int dual(int a) {
        if (!hasRule(a)) {
            return -1;
        }
        Rule x = rules.get(a);
        int all = settings() - 1;
        return add(s -> !x.good(all - s));
    }

    boolean system(int rule) {
        if (!hasRule(rule)) {
            return false;
        }
        system = rule;
        changed();
        return true;
    }

    int says(int rule, int set) {
        return hasRule(rule) && hasSetting(set) ? (rules.get(rule).good(set) ? 1 : 0) : -1;
    }

    int differ(int a, int b) {
        if (hasRule(a) && hasRule(b)) {
            for (int s = 0; s < settings(); s++) {
                if (rules.get(a).good(s) != rules.get(b).good(s)) {
                    return s;
                }
            }
        }
        return -1;
    }

    private boolean good(int s) {
        return rules.get(system).good(s);
    }

    /** Whether the parts of a set, all being as told, make the system good (or not good) whatever the others are. */
    private boolean makes(int what, int set) {
        for (int s = 0; s < settings(); s++) {
            boolean all = true;
            for (int p = 0; p < n; p++) {
                if (in(p, set) && in(p, s) != (what == 0)) {
                    all = false;
                }
            }
            if (all && good(s) != (what == 0)) {
                return false;
            }
        }
        return true;
    }

    private List<Integer> leastSets(int what) {
        List<Integer> found = new ArrayList<>();
        for (int set = 0; set < settings(); set++) {
            boolean least = makes(what, set);
            for (int p = 0; p < n; p++) {
                if (in(p, set) && makes(what, set - (1 << p))) {
                    least = false;
                }
            }
            if (least) {
                found.add(set);
            }
        }
        return found;
    }

    int sets(int what) {
        return (what == 0 || what == 1) && system >= 0 ? leastSets(what).size() : -1;
    }

    int set(int what, int i) {
        if (what != 0 && what != 1 || system < 0) {
            return -1;
        }
        List<Integer> found = leastSets(what);
        return i >= 0 && i < found.size() ? found.get(i) : -1;
    }

    boolean see(int p, int how) {
        if (!hasPart(p) || how != 0 && how != 1 && how != -1) {
            return false;
        }
        seen[p] = how;
        return true;
    }

    int partOf(int p, int what) {
        if (!hasPart(p) || what < 0 || what > 3) {
            return -2;
        }
        return what == 0 ? g[p] : what == 1 ? f[p] : what == 2 ? price[p] : seen[p];
    }

    private boolean fits(int s, int[] view) {
        for (int p = 0; p < n; p++) {
            if (view[p] != -1 && (view[p] == 1) != in(p, s)) {
                return false;
            }
        }
        return true;
    }

    private static String key(int[] view) {
        StringBuilder text = new StringBuilder();
        for (int v : view) {
            text.append(v == -1 ? '?' : v == 1 ? '+' : '-');
        }
        return text.toString();
    }

    private int sure(int[] view) {
        Integer known = sureOf.get(key(view));
        if (known != null) {
            return known;
        }
        boolean someGood = false;
        boolean someNot = false;
        for (int s = 0; s < settings(); s++) {
            if (fits(s, view)) {
                someGood |= good(s);
                someNot |= !good(s);
            }
        }
        int answer = someGood && someNot ? -1 : someGood ? 1 : 0;
        sureOf.put(key(view), answer);
        return answer;
    }

    int sure() {
        return system < 0 ? -2 : sure(seen);
    }

    private long weight(int s) {
        long product = 1;
        for (int p = 0; p < n; p++) {
            product *= in(p, s) ? g[p] : f[p];
        }
        return product;
    }

    private long left(int[] view) {
        long sum = 0;
        for (int s = 0; s < settings(); s++) {
            sum += fits(s, view) ? weight(s) : 0;
        }
        return sum;
    }

    private static int[] with(int[] view, int p, int how) {
        int[] next = view.clone();
        next[p] = how;
        return next;
    }

    private long bestBy(int[] view, int p) {
        return price[p] * left(view) + best(with(view, p, 0)) + best(with(view, p, 1));
    }

    private long best(int[] view) {
        if (sure(view) != -1) {
            return 0;
        }
        Long known = bestOf.get(key(view));
        if (known == null) {
            known = Long.MAX_VALUE;
            for (int p = 0; p < n; p++) {
                if (view[p] == -1) {
                    known = Math.min(known, bestBy(view, p));
                }
            }
            bestOf.put(key(view), known);
        }
        return known;
    }

    private long worstBy(int[] view, int p) {
        return price[p] + Math.max(worst(with(view, p, 0)), worst(with(view, p, 1)));
    }

    private long worst(int[] view) {
        if (sure(view) != -1) {
            return 0;
        }
        Long known = worstOf.get(key(view));
        if (known == null) {
            known = Long.MAX_VALUE;
            for (int p = 0; p < n; p++) {
                if (view[p] == -1) {
                    known = Math.min(known, worstBy(view, p));
                }
            }
            worstOf.put(key(view), known);
        }
        return known;
    }

    private int next(int plan, int[] view) {
        if (sure(view) != -1) {
            return -1;
        }
        if (plan == 2) {
            for (int p : order) {
                if (view[p] == -1) {
                    return p;
                }
            }
        }
        for (int p = 0; p < n; p++) {
            if (view[p] == -1) {
                if (plan == 2 || plan == 0 && bestBy(view, p) == best(view) || plan == 1 && worstBy(view, p) == worst(view)) {
                    return p;
                }
            }
        }
        throw new IllegalStateException("no next part");
    }

    private List<Integer> follow(int plan, int setting) {
        List<Integer> path = new ArrayList<>();
        int[] view = seen.clone();
        for (int p = next(plan, view); p != -1; p = next(plan, view)) {
            path.add(p);
            view[p] = in(p, setting) ? 1 : 0;
        }
        return path;
    }

    private int priceOf(List<Integer> path) {
        int sum = 0;
        for (int p : path) {
            sum += price[p];
        }
        return sum;
    }

    private long leastProof(int setting) {
        long least = Long.MAX_VALUE;
        for (int set = 0; set < settings(); set++) {
            int[] view = seen.clone();
            long sum = 0;
            boolean free = true;
            for (int p = 0; p < n; p++) {
                if (in(p, set)) {
                    free &= seen[p] == -1;
                    view[p] = in(p, setting) ? 1 : 0;
                    sum += price[p];
                }
            }
            if (free && sum < least && sure(view) != -1) {
                least = sum;
            }
        }
        return least;
    }

    long told(int what) {
        if (what < 0 || what > 8 || what > 0 && system < 0) {
            return -2;
        }
        switch (what) {
            case 0: return left(seen);
            case 2: return best(seen);
            case 3: return next(0, seen);
            case 4: return worst(seen);
            case 5: return next(1, seen);
            default: break;
        }
        long sum = 0;
        long most = 0;
        for (int s = 0; s < settings(); s++) {
            if (fits(s, seen)) {
                long times = what == 1 ? (good(s) ? 1 : 0) : what == 6 ? leastProof(s) : priceOf(follow(2, s));
                sum += weight(s) * times;
                most = Math.max(most, times);
            }
        }
        return what == 8 ? most : sum;
    }

    long of(int p, int what) {
        if (!hasPart(p) || what < 0 || what > 1 || seen[p] != -1 || system < 0) {
            return -2;
        }
        if (what == 0) {
            return best(seen) - (best(with(seen, p, 1)) + best(with(seen, p, 0)));
        }
        long sum = 0;
        for (int s = 0; s < settings(); s++) {
            int turned = in(p, s) ? s - (1 << p) : s + (1 << p);
            sum += fits(s, seen) && good(s) != good(turned) ? weight(s) : 0;
        }
        return sum;
    }

    int order(int p) {
        if (!hasPart(p) || order.contains(p)) {
            return -1;
        }
        order.add(p);
        return order.size();
    }

    int ratios(boolean side, boolean empty) {
        order = new ArrayList<>();
        for (int p = 0; p < n && !empty; p++) {
            order.add(p);
        }
        order.sort((a, b) -> {
            long ofA = (long) price[a] * (g[a] + f[a]) * (side ? g[b] : f[b]);
            long ofB = (long) price[b] * (g[b] + f[b]) * (side ? g[a] : f[a]);
            return ofA != ofB ? Long.compare(ofA, ofB) : Integer.compare(a, b);
        });
        return order.size();
    }

    int ordered(int i) {
        return i >= 0 && i < order.size() ? order.get(i) : -1;
    }

    int run(int what, int setting) {
        if (what < 0 || what > 2 || system < 0 || !hasSetting(setting) || !fits(setting, seen)) {
            return -1;
        }
        looks = follow(what, setting);
        return priceOf(looks);
    }

    int looked(int i) {
        return i >= 0 && i < looks.size() ? looks.get(i) : -1;
    }

    int about(int what) {
        switch (what) {
            case 0: return n;
            case 1: return rules.size();
            case 2: return system;
            case 3: return order.size();
            case 4: return looks.size();
            default: return -1;
        }
    }
}
