import java.util.Random;

/** Drives LookBench and PlainBench by the same drawn calls, right and wrong ones; all answers must be alike. */
public final class PlainTest {
    private static final int[] ODD = {-1, -2, 9, 10, 40, 512, Integer.MIN_VALUE, Integer.MAX_VALUE, 31, 32, 64};

    private final Checks checks = new Checks();
    private final Random random = new Random(20261116);
    private LookBench x;
    private PlainBench y;
    private int n;

    public static void main(String[] args) {
        PlainTest test = new PlainTest();
        for (int run = 0; run < 1500 && !test.checks.anyWrong(); run++) {
            test.checks.at("drawn run " + run);
            test.drawnRun(1 + test.random.nextInt(run % 10 == 0 ? 6 : 5));
        }
        for (int run = 0; run < 6 && !test.checks.anyWrong(); run++) {
            test.checks.at("great run " + run);
            test.greatRun(7 + run % 3);
        }
        test.checks.end();
    }

    private int draw(int below) {
        return random.nextInt(20) == 0 ? ODD[random.nextInt(ODD.length)] : random.nextInt(below);
    }

    private void fresh(int parts) {
        x = new LookBench();
        y = new PlainBench();
        n = 1;
        parts(parts);
    }

    private void parts(int count) {
        checks.due("parts(" + count + ")", x.parts(count), y.parts(count));
        n = x.about(0);
    }

    private void drawnRun(int parts) {
        fresh(parts);
        for (int p = 0; p < n; p++) {
            drawnPart(p);
            checks.due("single(" + p + ")", x.single(p), y.single(p));
        }
        int calls = 20 + random.nextInt(180);
        for (int i = 0; i < calls; i++) {
            drawnCall();
        }
        wholeState();
    }

    private void greatRun(int parts) {
        fresh(parts);
        for (int p = 0; p < n; p++) {
            drawnPart(p);
            checks.due("single(" + p + ")", x.single(p), y.single(p));
        }
        for (int i = 0; i < 12; i++) {
            drawnRule();
        }
        for (int p = 1; p < n; p++) {
            int set = 1 + random.nextInt((1 << n) - 1);
            checks.due("some", x.some(set, 0L, 0, 1 + p / 3), y.some(set, 0L, 0, 1 + p / 3));
        }
        int rule = x.about(1) - 1;
        checks.due("row", x.row(rule, rule - 1), y.row(rule, rule - 1));
        checks.due("side", x.side(rule + 1, rule - 2), y.side(rule + 1, rule - 2));
        checks.due("system", x.system(rule + 2), y.system(rule + 2));
        for (int i = 0; i < 4; i++) {
            wholeState();
            drawnLook();
            drawnOrder();
        }
    }

    private void drawnPart(int p) {
        int g = random.nextInt(15) == 0 ? draw(12) : 1 + random.nextInt(9);
        int f = random.nextInt(15) == 0 ? draw(12) : 1 + random.nextInt(9);
        int price = random.nextInt(3) == 0 ? draw(1003) : random.nextInt(4);
        checks.due("part(" + p + ", " + g + ", " + f + ", " + price + ")", x.part(p, g, f, price), y.part(p, g, f, price));
    }

    private void drawnCall() {
        switch (random.nextInt(12)) {
            case 0: drawnPart(draw(n)); break;
            case 1: case 2: drawnRule(); break;
            case 3: drawnSystem(); break;
            case 4: drawnLook(); break;
            case 5: drawnOrder(); break;
            case 6: drawnRun(); break;
            case 7: drawnTold(); break;
            case 8: drawnOf(); break;
            case 9: drawnSets(); break;
            case 10: drawnSaying(); break;
            default: drawnRest(); break;
        }
    }

    private void drawnRule() {
        int count = Math.max(1, x.about(1));
        int a = draw(count);
        int b = draw(count);
        switch (random.nextInt(6)) {
            case 0: checks.due("single(" + a + ")", x.single(a), y.single(a)); break;
            case 1: checks.due("row(" + a + ", " + b + ")", x.row(a, b), y.row(a, b)); break;
            case 2: checks.due("side(" + a + ", " + b + ")", x.side(a, b), y.side(a, b)); break;
            case 3: checks.due("dual(" + a + ")", x.dual(a), y.dual(a)); break;
            default: drawnSome(); break;
        }
    }

    private void drawnSome() {
        int set = draw(1 << n);
        long worths = random.nextInt(8) == 0 ? random.nextLong() : random.nextInt(1 << 27);
        int width = draw(5);
        int k = random.nextInt(10) == 0 ? draw(103) : random.nextInt(1 + n * Math.min(4, Math.max(1, width)));
        checks.due("some(" + set + ", " + worths + ", " + width + ", " + k + ")",
                x.some(set, worths, width, k), y.some(set, worths, width, k));
    }

    private void drawnSystem() {
        int rule = draw(1 + x.about(1));
        checks.due("system(" + rule + ")", x.system(rule), y.system(rule));
    }

    private void drawnLook() {
        int p = draw(n);
        int how = random.nextInt(8) == 0 ? draw(4) : random.nextInt(3) - 1;
        checks.due("see(" + p + ", " + how + ")", x.see(p, how), y.see(p, how));
    }

    private void drawnOrder() {
        int p = draw(n);
        boolean side = random.nextBoolean();
        boolean empty = random.nextInt(3) == 0;
        if (random.nextInt(3) == 0) {
            checks.due("ratios(" + side + ", " + empty + ")", x.ratios(side, empty), y.ratios(side, empty));
        } else {
            checks.due("order(" + p + ")", x.order(p), y.order(p));
        }
        for (int i = -1; i <= n; i++) {
            checks.due("ordered(" + i + ")", x.ordered(i), y.ordered(i));
        }
    }

    private void drawnRun() {
        int what = draw(4);
        int setting = draw(1 << n);
        checks.due("run(" + what + ", " + setting + ")", x.run(what, setting), y.run(what, setting));
        trail();
    }

    private void trail() {
        checks.due("about(4)", x.about(4), y.about(4));
        for (int i = -1; i <= n; i++) {
            checks.due("looked(" + i + ")", x.looked(i), y.looked(i));
        }
    }

    private void drawnTold() {
        int what = draw(10);
        checks.due("told(" + what + ")", x.told(what), y.told(what));
    }

    private void drawnOf() {
        int p = draw(n);
        int what = draw(3);
        checks.due("of(" + p + ", " + what + ")", x.of(p, what), y.of(p, what));
    }

    private void drawnSets() {
        int what = draw(3);
        int i = draw(4);
        checks.due("sets(" + what + ")", x.sets(what), y.sets(what));
        checks.due("set(" + what + ", " + i + ")", x.set(what, i), y.set(what, i));
    }

    private void drawnSaying() {
        int a = draw(1 + x.about(1));
        int b = draw(1 + x.about(1));
        int set = draw(1 << n);
        checks.due("says(" + a + ", " + set + ")", x.says(a, set), y.says(a, set));
        checks.due("differ(" + a + ", " + b + ")", x.differ(a, b), y.differ(a, b));
    }

    private void drawnRest() {
        int p = draw(n);
        int what = draw(6);
        checks.due("partOf(" + p + ", " + what + ")", x.partOf(p, what), y.partOf(p, what));
        checks.due("about(" + what + ")", x.about(what), y.about(what));
        checks.due("sure()", x.sure(), y.sure());
        if (random.nextInt(40) == 0) {
            parts(random.nextInt(3) == 0 ? draw(11) % 7 : 1 + random.nextInt(5));
        }
    }

    private void wholeState() {
        for (int what = -1; what < 10; what++) {
            checks.due("told(" + what + ")", x.told(what), y.told(what));
            checks.due("about(" + what + ")", x.about(what), y.about(what));
        }
        checks.due("sure()", x.sure(), y.sure());
        for (int p = -1; p <= n; p++) {
            for (int what = -1; what <= 4; what++) {
                checks.due("of(" + p + ", " + what + ")", x.of(p, what), y.of(p, what));
                checks.due("partOf(" + p + ", " + what + ")", x.partOf(p, what), y.partOf(p, what));
            }
        }
        for (int what = -1; what <= 3; what++) {
            checks.due("sets(" + what + ")", x.sets(what), y.sets(what));
            for (int i = 0; i < Math.min(8, y.sets(what) + 1); i++) {
                checks.due("set(" + what + ", " + i + ")", x.set(what, i), y.set(what, i));
            }
            for (int i = 0; i < 4; i++) {
                int setting = random.nextInt(1 << n);
                checks.due("run(" + what + ", " + setting + ")", x.run(what, setting), y.run(what, setting));
                trail();
            }
        }
    }
}
