/**
 * All that the calls tell of a bench, as a text: two benches with the same picture are in the same state. It takes
 * fewer than 300 calls of the benches in Edges that it is for, so that none is called more than 512 times.
 */
final class Picture {
    private final StringBuilder text = new StringBuilder();
    private final LookBench x;

    private Picture(LookBench x) {
        this.x = x;
    }

    static String of(LookBench x) {
        Picture picture = new Picture(x);
        picture.counts();
        picture.parts();
        picture.rules();
        picture.sets();
        picture.plans();
        return picture.text.toString();
    }

    private void add(String name, long answer) {
        text.append(name).append('=').append(answer).append(' ');
    }

    private void counts() {
        for (int what = 0; what <= 4; what++) {
            add("about" + what, x.about(what));
        }
        for (int i = 0; i < x.about(3); i++) {
            add("ordered" + i, x.ordered(i));
        }
        for (int i = 0; i < x.about(4); i++) {
            add("looked" + i, x.looked(i));
        }
    }

    private void parts() {
        for (int p = 0; p < x.about(0); p++) {
            for (int what = 0; what <= 3; what++) {
                add("part" + p + "," + what, x.partOf(p, what));
            }
        }
    }

    private void rules() {
        int rules = x.about(1);
        int settings = 1 << x.about(0);
        for (int rule = 0; rule < rules; rule++) {
            for (int set = 0; set < settings; set++) {
                add("says" + rule + "," + set, x.says(rule, set));
            }
        }
    }

    private void sets() {
        for (int what = 0; what <= 1; what++) {
            add("sets" + what, x.sets(what));
            for (int i = 0; i < x.sets(what); i++) {
                add("set" + what + "," + i, x.set(what, i));
            }
        }
    }

    private void plans() {
        add("sure", x.sure());
        for (int what = 0; what <= 8; what++) {
            add("told" + what, x.told(what));
        }
        for (int p = 0; p < x.about(0); p++) {
            add("gain" + p, x.of(p, 0));
            add("matters" + p, x.of(p, 1));
        }
    }
}
