/**
 * All that the calls of an object show without changing it, as one text. It takes more calls than the 512 that the document promises
 * answers for; the class counts no calls, so that it may be asked on.
 */
final class Snapshot {
    private final PartHouse x;
    private final StringBuilder text = new StringBuilder();

    private Snapshot(PartHouse x) {
        this.x = x;
    }

    static String of(PartHouse x) {
        Snapshot s = new Snapshot(x);
        s.rows();
        s.disk();
        s.outside();
        for (int p = 0; p < x.told(3); p++) {
            s.partition(p);
        }
        for (int c = 0; c < x.told(4); c++) {
            for (int what = 0; what <= 20; what++) {
                s.add("channel " + c + " " + what, x.channel(c, what));
            }
        }
        return s.text.toString();
    }

    /** The first line that differs. */
    static String difference(String before, String after) {
        String[] first = before.split("\n");
        String[] second = after.split("\n");
        for (int i = 0; i < first.length && i < second.length; i++) {
            if (!first[i].equals(second[i])) {
                return " (" + first[i] + " / " + second[i] + ")";
            }
        }
        return "";
    }

    private void add(String what, int answer) {
        text.append(what).append(" = ").append(answer).append('\n');
    }

    private void rows() {
        for (int what = 0; what <= 8; what++) {
            add("told " + what, x.told(what));
        }
        add("place", x.place());
        for (int k = 0; k < 40; k++) {
            add("shown " + k, x.shown(k));
        }
        for (int i = 0; i < x.told(7); i++) {
            add("word " + i, x.word(i));
        }
        for (int p = 0; p < 8; p++) {
            add("safe " + p, x.safe(p, 2048));
        }
    }

    private void disk() {
        for (int i = 0; i < 64; i++) {
            add("block " + i, x.block(i, 0));
        }
    }

    private void outside() {
        for (int h = 1; h <= x.told(6); h++) {
            add("kind " + h, x.kind(h));
            add("number " + h, x.number(h));
            add("far " + h, x.far(-1, h));
        }
    }

    private void partition(int p) {
        for (int what = 0; what <= 10; what++) {
            add("state " + p + " " + what, x.state(p, what));
        }
        for (int r = 0; r < 16; r++) {
            add("register " + p + " " + r, x.register(p, r));
        }
        for (int i = 0; i < 2048; i++) {
            add("memory " + p + " " + i, x.memory(p, i));
        }
        for (int i = 0; i < x.state(p, 7); i++) {
            add("output " + p + " " + i, x.output(p, i, 0) == 0 ? x.output(p, i, 1) : -1);
        }
        for (int h = 1; h <= x.state(p, 6); h++) {
            add("far " + p + " " + h, x.far(p, h));
        }
    }
}
