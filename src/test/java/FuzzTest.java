import java.util.Random;

/** Every promise: no call throws, the same calls answer the same, and a call that is refused changes nothing. */
public final class FuzzTest {
    private static final int CALLS = 512;
    private static final int[] EDGES = {0, 1, -1, 2, 3, 7, 8, 9, 15, 16, 17, 63, 64, 65, 99, 100, 101, 199, 200, 201, 255, 256,
        500, 599, 600, 601, 1000, 1001, 2000, 2001, 2047, 2048, 2049, 6000, 8176, 8192, 60000,
        Integer.MAX_VALUE, Integer.MIN_VALUE, Integer.MIN_VALUE + 1, 0x3FFFFFFF, -100};

    public static void main(String[] args) {
        for (int i = 0; i < 250; i++) {
            new FuzzTest(i).go();
        }
        Check.end("FuzzTest");
    }

    private final Random random;
    private final PartHouse all = new PartHouse();
    /** Is called as the other is, but for what was refused there. */
    private final PartHouse less = new PartHouse();
    private final int seed;

    private FuzzTest(int seed) {
        this.seed = seed;
        random = new Random(seed);
    }

    private int any() {
        return random.nextInt(6) == 0 ? random.nextInt() : EDGES[random.nextInt(EDGES.length)];
    }

    private int small(int most) {
        return random.nextInt(12) == 0 ? any() : random.nextInt(most);
    }

    private void go() {
        for (int i = 0; i < CALLS; i++) {
            int plan = random.nextInt(100);
            if (i < 60 && seed % 5 > 0) {
                prepare(i);
            } else if (plan < 50) {
                change(random.nextInt(18));
            } else {
                look(random.nextInt(17));
            }
        }
    }

    /** Calls that lead to a boot, on the whole. */
    private void prepare(int i) {
        if (i % 10 == 0) {
            int keep = i / 10;
            String text = program();
            Check.typeText(all, text);
            Check.typeText(less, text);
            same("assemble", all.assemble(), less.assemble());
            same("place", all.place(), less.place());
            int what = keep == 5 ? 8 : keep;
            same("keep", all.keep(what), less.keep(what));
        } else if (i == 59) {
            int[] config = {3, 0, 64, 2, 64, 64, 1, 128, 64, 0, 2, 0, 1, 2, 1, 2, 3, 4, 0, 10, 1, 8, 2, 9, 255, 2};
            if (random.nextInt(3) == 0) {
                config[random.nextInt(config.length)] = small(20);
            }
            Check.row(all, config);
            Check.row(less, config);
            same("keep", all.keep(9), less.keep(9));
            same("boot", all.boot(), less.boot());
        } else {
            change(3 + random.nextInt(3));
        }
    }

    private String program() {
        StringBuilder text = new StringBuilder();
        int lines = 1 + random.nextInt(16);
        for (int i = 0; i < lines; i++) {
            int kind = random.nextInt(8);
            if (kind <= 3) {
                text.append("addi r" + random.nextInt(4) + ", r0, " + random.nextInt(9) + "\n").append("ask " + random.nextInt(36) + "\n");
            } else if (kind == 4) {
                text.append("ask 6\n");
            } else if (kind == 5) {
                text.append("word " + random.nextInt() + "\n");
            } else if (kind == 6) {
                text.append("stw r1, r0, " + 4 * random.nextInt(70) + "\n");
            } else {
                text.append("beq r1, r2, " + (random.nextInt(9) - 4) + "\n");
            }
        }
        return text + (random.nextInt(8) == 0 ? "?" : "jump r0, -" + random.nextInt(lines));
    }

    private void same(String call, int first, int second) {
        Check.due(call + " without what was refused, seed " + seed, second, first);
    }

    private void change(int which) {
        int a = any();
        int b = any();
        int c = small(30);
        int d = small(30);
        int p = small(4);
        long v = random.nextLong();
        int answer = changing(all, which, a, b, c, d, p, v);
        boolean refused = answer < 0 && which != 1;
        if (!refused) {
            same("change " + which, answer, changing(less, which, a, b, c, d, p, v));
        }
    }

    private static int changing(PartHouse x, int which, int a, int b, int c, int d, int p, long v) {
        switch (which) {
            case 0: return x.type(v, c);
            case 1: return x.assemble();
            case 2: return x.feed(a, b, c, d);
            case 3: return x.drop(c);
            case 4: return x.keep(d);
            case 5: return x.make(c % 11, d, p, a);
            case 6: return x.boot();
            case 7: return c == 0 ? x.off() : x.run(c);
            case 8: return x.cut(c);
            case 9: return x.run(a);
            case 10: return x.input(p, a);
            case 11: return x.inputTerm(p, c);
            case 12: return x.put(c, d, p);
            case 13: return x.make(c % 11, c, d, p);
            case 14: return x.take(c, p, d);
            case 15: return x.block(c, 1);
            case 16: return x.measure(p);
            default: return x.make(0, a, b, c);
        }
    }

    private void look(int which) {
        int a = small(25);
        int b = small(12);
        int p = small(4);
        int q = small(4) - (random.nextInt(4) == 0 ? 1 : 0);
        int first = looking(all, which, a, b, p, q);
        same("look " + which, first, looking(less, which, a, b, p, q));
        if (which <= 3 || which == 11) {
            Check.due("look " + which + " answers no refusal but the document's", first >= -4 || which <= 3 ? 1 : 0, 1);
        }
    }

    private static int looking(PartHouse x, int which, int a, int b, int p, int q) {
        switch (which) {
            case 0: return x.show(a * 0x04111111);
            case 1: return x.shown(a);
            case 2: return x.word(a);
            case 3: return x.place();
            case 4: return x.safe(p, a);
            case 5: return x.output(p, a, b % 3);
            case 6: return x.state(p, b);
            case 7: return x.register(p, a);
            case 8: return x.memory(p, a);
            case 9: return x.channel(q, a);
            case 10: return x.block(a, 0);
            case 11: return x.kind(a);
            case 12: return x.number(a) + 3 * x.told(b);
            case 13: return x.knows(q, a);
            case 14: return x.far(q, a);
            case 15: return x.same(q, a, p, b);
            default: return x.purge(p) * 10 + x.flows(q, p);
        }
    }
}
