/** Section 7, THE DISK, sentence by sentence, at its boundaries. */
public final class DiskEdgeTest {
    public static void main(String[] args) {
        blocks();
        copies();
        lastBlocks();
        rightCopies();
        otherPartitions();
        otherMeasures();
        madeOutside();
        counts();
        versions();
        sealOverWhatCounts();
        cutWrites();
        cutCounts();
        cutEmpties();
        cutOfAll();
        refusedSeals();
        Check.end("DiskEdgeTest");
    }

    /**
     * Puts out, for BLOB r, the VERSION that COUNTS and the NUMBER that UNSEAL gives (or what it answers below 0), then seals each
     * word that comes in, as a NUMBER, and puts out its VERSION.
     */
    private static String keeper(int blob) {
        return "addi r1, r0, " + blob + "\nask 34\nask 6\naddi r1, r0, " + blob + "\nask 33\nblt r1, r0, 2\nask 23\nask 6\n"
            + "x: ask 5\nbeq r2, r0, x\nask 13\nadd r2, r1, r0\naddi r1, r0, " + blob + "\nask 32\nask 6\njump r0, x";
    }

    private static final int[] ONE = {1, 0, 64, 2, 0, 1, 0, 1000};

    /** Has sealed 11, 12, .. as VERSIONS 1, 2, .. of BLOB 0, and is OFF; HANDLE v is what VERSION v was closed as. */
    private static PartHouse sealed(int versions) {
        PartHouse x = Check.booted(ONE, keeper(0));
        for (int v = 1; v <= versions; v++) {
            x.input(0, 10 + v);
            x.run(50);
            Check.due("VERSION", x.output(0, 1 + v, 1), v);
            Check.due("its BLOCK", x.block(v % 2, 0), v);
            Check.due("its HANDLE", x.block(v % 2, 1), v);
        }
        x.off();
        return x;
    }

    /** Boots, and looks at what COUNTS: 0 and -3 where nothing does. */
    private static void finds(String what, PartHouse x, int version, int word) {
        Check.due("boot", x.boot(), 1);
        x.run(20);
        Check.due(what + ": the VERSION that COUNTS", x.output(0, 0, 1), version);
        Check.due(what + ": UNSEAL", x.output(0, 1, 1), word);
        x.off();
    }

    /** BLOCKS 0 and 1 get these VERSIONS and HANDLES. */
    private static void copies(PartHouse x, int v0, int h0, int v1, int h1) {
        Check.due("put", x.put(0, v0, h0), 0);
        Check.due("put", x.put(1, v1, h1), 0);
    }

    private static void blocks() {
        Check.about("has 64 BLOCKS, each with a VERSION and a TERM, or empty (at first)");
        PartHouse x = new PartHouse();
        x.make(0, 7, 0, 0);
        for (int i = 0; i < 64; i++) {
            Check.due("VERSION of " + i, x.block(i, 0), 0);
            Check.due("TERM of " + i, x.block(i, 1), 0);
        }
        for (int i : new int[] {-1, 64, Integer.MAX_VALUE, Integer.MIN_VALUE}) {
            Check.due("block " + i, x.block(i, 0), -1);
            Check.due("put " + i, x.put(i, 1, 1), -1);
        }
        for (int i : new int[] {0, 63}) {
            Check.due("put " + i, x.put(i, 5 + i, 1), 0);
            Check.due("VERSION of " + i, x.block(i, 0), 5 + i);
            Check.due("TERM of " + i, x.block(i, 1), 1);
        }
        Check.due("the ones beside", x.block(1, 0) + x.block(62, 0), 0);
    }

    private static void copies() {
        Check.about("BLOB b of partition p has two copies, BLOCKS 2 (the AREAS before p's together + b) and the next one");
        int[] areas = {3, 0, 8, 1};
        Script[] scripts = new Script[4];
        int[] config = {4, 0, 256, 3, 256, 256, 0, 512, 256, 8, 768, 256, 1, 0, 4, 0, 200, 1, 200, 2, 200, 3, 200};
        for (int p = 0; p < 4; p++) {
            scripts[p] = new Script().ask(13, 1, 5);
            for (int b = 0; b <= areas[p]; b++) {
                scripts[p].ask(32, b < areas[p] ? 1 : -1, b, 1).ask(32, b < areas[p] ? 2 : -1, b, 1).ask(32, b < areas[p] ? 3 : -1, b, 1);
            }
        }
        PartHouse x = Check.booted(config, scripts[0].image(), scripts[1].image(), scripts[2].image(), scripts[3].image());
        x.run(800);
        for (int p = 0; p < 4; p++) {
            scripts[p].check(x, p);
        }
        for (int i = 0; i < 64; i++) {
            Check.due("VERSION of BLOCK " + i, x.block(i, 0), i >= 24 ? 0 : i % 2 == 0 ? 2 : 3);
        }
    }

    private static void lastBlocks() {
        Check.about("all so far together at most 32");
        String text = new Script().silent(13, 5).silent(32, 7, 1).silent(32, 7, 1).silent(32, 8, 1).does("add r5, r1, r0").image();
        int[] config = {4, 0, 64, 8, 64, 64, 8, 128, 64, 8, 192, 64, 8, 0, 1, 3, 1000};
        PartHouse x = Check.booted(config, text, text, text, text);
        x.run(20);
        Check.due("BLOCK 62", x.block(62, 0), 2);
        Check.due("BLOCK 63", x.block(63, 0), 1);
        Check.due("no BLOB 8", x.register(3, 5), -1);
        Check.due("others", x.block(61, 0) + x.block(0, 0), 0);
    }

    private static void rightCopies() {
        Check.about("A copy is RIGHT if its TERM is CLOSED(DERIVED(DK, R(p)), PAIR(NUMBER b, NUMBER v), a), v being its VERSION");
        PartHouse x = sealed(3);
        finds("as it was", x, 3, 13);
        int[][] cases = {{0, 0, 0, 0, 0, -3}, {0, 0, 3, 3, 3, 13}, {3, 3, 0, 0, 3, 13}, {0, 0, 2, 3, 0, -3}, {0, 0, 4, 3, 0, -3}, {4, 3, 2, 3, 0, -3},
            {1, 1, 0, 0, 1, 11}, {2, 1, 0, 0, 0, -3}, {Integer.MAX_VALUE, 3, 1, 1, 1, 11}, {1, 1, Integer.MAX_VALUE, 3, 1, 11}, {1, 2, 2, 1, 0, -3}};
        for (int[] c : cases) {
            copies(x, c[0], c[1], c[2], c[3]);
            finds(java.util.Arrays.toString(c), x, c[4], c[5]);
        }
        // Another BLOB's TERM is not RIGHT.
        x.put(0, 0, 0);
        x.put(1, 0, 0);
        x.put(2, 2, 2);
        x.put(3, 3, 3);
        finds("copies of another BLOB", x, 0, -3);
        Check.due("they stay", x.block(2, 0) * 10 + x.block(3, 0), 23);
        PartHouse y = Check.booted(ONE, new Script().silent(13, 5).silent(32, 0, 1).silent(32, 1, 1).image());
        y.run(8);
        Check.due("BLOB 0's", y.block(1, 1), 1);
        Check.due("BLOB 1's", y.block(3, 1), 2);
        y.off();
        Check.due("the one's as the other's", y.put(1, 1, 2), 0);
        Check.due("the one's as the other's", y.put(3, 1, 1), 0);
        y.boot();
        y.run(5);
        Check.due("VERSION, over a copy that is not RIGHT", y.register(0, 1), 1);
        y.run(3);
        Check.due("VERSION, over a copy that is not RIGHT", y.register(0, 1), 1);
        y.off();
        y.boot();
        y.run(5);
        Check.due("VERSION, behind one that is", y.register(0, 1), 2);
    }

    private static void otherPartitions() {
        Check.about("DERIVED(DK, R(p))");
        int[] config = {2, 0, 64, 1, 64, 64, 1, 0, 2, 0, 100, 1, 100};
        PartHouse x = Check.booted(config, keeper(0), keeper(0));
        x.input(0, 50);
        x.input(1, 60);
        x.run(400);
        Check.due("HANDLES", x.block(1, 1) * 10 + x.block(3, 1), 12);
        x.off();
        Check.due("put", x.put(1, 1, 2), 0);
        Check.due("put", x.put(3, 1, 1), 0);
        x.boot();
        x.run(200);
        for (int p = 0; p < 2; p++) {
            Check.due("the other's, though the images are alike", x.output(p, 0, 1) * 10 + x.output(p, 1, 1), -3);
        }
        x.off();
        x.put(1, 1, 1);
        x.put(3, 1, 2);
        x.boot();
        x.run(200);
        Check.due("its own", x.output(0, 1, 1) * 100 + x.output(1, 1, 1), 5060);
    }

    private static void otherMeasures() {
        Check.about("R(p)");
        PartHouse x = sealed(1);
        finds("as it was", x, 1, 11);
        Check.keepRow(x, Check.LOADER, 1, 2, 4);
        finds("another loader", x, 0, -3);
        Check.keepRow(x, Check.LOADER, 1, 2, 3);
        finds("the loader again", x, 1, 11);
        Check.keepRow(x, Check.CONFIG, 1, 0, 64, 2, 0, 1, 0, 999);
        finds("another CONFIG", x, 0, -3);
        Check.keepRow(x, Check.CONFIG, ONE);
        Check.keepText(x, 0, keeper(0) + "\nback");
        finds("another image", x, 0, -3);
        Check.keepText(x, 0, keeper(0));
        finds("the image again", x, 1, 11);
        Check.keepText(x, 1, "back");
        finds("an image that is not booted does not count", x, 1, 11);
    }

    private static void madeOutside() {
        Check.about("A copy is RIGHT if its TERM is CLOSED(DERIVED(DK, R(p))");
        PartHouse x = sealed(1);
        // 2 is n, 3 a NUMBER, 4 R(0), 5 a SECRET, 6 DERIVED(5, R(0)), then CLOSED and SIGNED of these.
        Check.due("n", x.take(1, 3, 0), 2);
        Check.due("NUMBER", x.make(0, 99, 0, 0), 3);
        Check.due("R(0)", x.measure(0), 4);
        Check.due("SECRET", x.make(2, 0, 0, 0), 5);
        Check.due("DERIVED", x.make(9, 5, 4, 0), 6);
        int[] wrong = {x.make(8, 6, 2, 3), x.make(8, 5, 2, 3), x.make(8, 4, 2, 3), x.make(7, 6, 2, 0), x.make(3, 2, 3, 0), 2, 3, 5};
        for (int h : wrong) {
            copies(x, 1, h, 1, h);
            finds("HANDLE " + h, x, 0, -3);
            copies(x, 1, h, 1, 1);
            finds("HANDLE " + h + " beside a RIGHT one", x, 1, 11);
        }
    }

    private static void counts() {
        Check.about("What COUNTS is the RIGHT copy with the greater VERSION (of like ones the first)");
        PartHouse x = sealed(3);
        int[][] cases = {{1, 2, 2, 12}, {2, 1, 2, 12}, {2, 3, 3, 13}, {3, 2, 3, 13}, {1, 3, 3, 13}, {3, 1, 3, 13}, {1, 1, 1, 11}, {3, 3, 3, 13}};
        for (int[] c : cases) {
            copies(x, c[0], c[0], c[1], c[1]);
            finds("VERSIONS " + c[0] + ", " + c[1], x, c[2], c[3]);
        }
        // Two TERMS of VERSION 1: seal 11, empty the BLOCK, seal another.
        PartHouse y = sealed(1);
        y.put(1, 0, 0);
        y.boot();
        y.input(0, 21);
        y.run(50);
        Check.due("VERSION 1 again", y.output(0, 2, 1), 1);
        Check.due("another TERM", y.block(1, 1), 2);
        y.off();
        copies(y, 1, 1, 1, 2);
        finds("like ones", y, 1, 11);
        copies(y, 1, 2, 1, 1);
        finds("like ones, the other way", y, 1, 21);
    }

    private static void versions() {
        Check.about("A SEAL writes VERSION v, one more than what COUNTS (1 without), with that TERM into copy v % 2");
        PartHouse x = sealed(5);
        for (int v = 1; v <= 5; v++) {
            Check.due("n of VERSION " + v, x.kind(x.take(v, 3, 0)), 3);
            int n = x.take(v, 3, 0);
            Check.due("b", x.number(x.take(n, 0, 0)), 0);
            Check.due("v", x.number(x.take(n, 1, 0)), v);
        }
        // What is not RIGHT does not count for the next VERSION.
        x.put(0, 9, 1);
        x.put(1, 1, 1);
        x.boot();
        x.input(0, 77);
        x.run(50);
        Check.due("one more than what COUNTS", x.output(0, 2, 1), 2);
        Check.due("over the wrong one", x.block(0, 0), 2);
        Check.due("beside what counted", x.block(1, 0), 1);
    }

    private static void sealOverWhatCounts() {
        Check.about("into copy v % 2");
        PartHouse x = sealed(3);
        copies(x, 3, 3, 0, 0);
        x.boot();
        x.input(0, 77);
        x.run(50);
        Check.due("VERSION", x.output(0, 2, 1), 4);
        Check.due("over what counted", x.block(0, 0) * 10 + x.block(1, 0), 40);
        x.off();
        finds("then", x, 4, 77);
    }

    private static final String SEALER = "ask 21\nx: addi r1, r0, 0\naddi r2, r0, 1\nask 32\naddi r5, r5, 1\njump r0, x";

    private static void cutWrites() {
        Check.about("POWER may be told to go at a write: its BLOCK is empty then, the power is OFF, and the tick is not over");
        for (int n = 1; n <= 5; n++) {
            PartHouse x = Check.booted(ONE, SEALER);
            Check.due("cut", x.cut(n), n);
            int ticks = 1 + 5 * (n - 1) + 2;
            Check.due("run", x.run(2000), ticks);
            Check.due("power", x.told(0), 0);
            Check.due("ticks", x.told(2), ticks);
            Check.due("writes", x.told(5), n);
            Check.due("SEALS", x.state(0, 10), n - 1);
            Check.due("its BLOCK", x.block(n % 2, 0) + x.block(n % 2, 1), 0);
            Check.due("the other BLOCK", x.block(1 - n % 2, 0), n - 1);
            Check.due("PC", x.state(0, 0), 12);
            Check.due("R1", x.register(0, 1), 0);
            Check.due("R5", x.register(0, 5), n - 1);
            Check.due("off", x.off(), -3);
            Check.due("run", x.run(1), -3);
            Check.due("boot", x.boot(), 1);
            x.run(4);
            Check.due("the VERSION then", x.register(0, 1), n);
        }
    }

    private static void cutCounts() {
        Check.about("at the n-th write of a BLOCK from now on (0: at none), as long as this boot lasts");
        PartHouse x = Check.booted(ONE, SEALER);
        x.run(1 + 5 * 3);
        Check.due("three writes before", x.told(5), 3);
        Check.due("cut", x.cut(2), 2);
        Check.due("run", x.run(100), 7);
        Check.due("from now on", x.told(5), 5);
        x.boot();
        Check.due("cut(1)", x.cut(1), 1);
        Check.due("cut(0)", x.cut(0), 0);
        Check.due("at none", x.run(500), 500);
        Check.due("power", x.told(0), 1);
        x.off();
        x.boot();
        Check.due("cut(2)", x.cut(2), 2);
        x.run(6);
        Check.due("cut(2) anew", x.cut(2), 2);
        Check.due("counts anew", x.run(100), 7);
        x.boot();
        x.cut(1);
        x.off();
        x.boot();
        Check.due("not in the next boot", x.run(100), 100);
        Check.due("cut(1000)", x.cut(1000), 1000);
        Check.due("is never come to", x.run(1000), 1000);
        Check.due("power", x.told(0), 1);
    }

    private static void cutEmpties() {
        Check.about("its BLOCK is empty then");
        PartHouse x = sealed(3);
        x.boot();
        x.cut(1);
        x.input(0, 44);
        x.run(100);
        Check.due("power", x.told(0), 0);
        Check.due("VERSION 2 is gone, VERSION 3 is not", x.block(0, 0) * 10 + x.block(1, 0), 3);
        finds("what was sealed before", x, 3, 13);
        x.boot();
        x.input(0, 45);
        x.run(100);
        Check.due("the VERSION that was cut", x.output(0, 2, 1), 4);
        x.off();
        // What counted may be the one that is written over.
        copies(x, 3, 3, 0, 0);
        x.boot();
        x.cut(1);
        x.input(0, 46);
        x.run(100);
        finds("nothing", x, 0, -3);
    }

    private static void cutOfAll() {
        Check.about("at the n-th write of a BLOCK");
        int[] config = {2, 0, 16, 1, 16, 16, 1, 0, 2, 0, 6, 1, 6};
        PartHouse x = Check.booted(config, SEALER, SEALER);
        x.cut(2);
        Check.due("the second write is 1's", x.run(100), 9);
        Check.due("SEALS", x.state(0, 10) * 10 + x.state(1, 10), 10);
        Check.due("BLOCKS", x.block(1, 0) * 10 + x.block(3, 0), 10);
        Check.due("writes", x.told(5), 2);
    }

    private static void refusedSeals() {
        Check.about("writes of BLOCKS by SEALS in all boots (also one that failed)");
        Script s = new Script().silent(13, 5).ask(32, -1, 2, 1).ask(32, -1, -1, 1).ask(32, -2, 0, 2).ask(33, -3, 0).ask(34, 0, 0);
        PartHouse x = Check.booted(ONE, s.image());
        x.cut(1);
        x.run(100);
        s.check(x, 0);
        Check.due("power", x.told(0), 1);
        Check.due("no write", x.told(5), 0);
        x.off();
        x.make(0, 1, 0, 0);
        Check.due("put", x.put(0, 1, 1), 0);
        Check.due("is no write of a SEAL", x.told(5), 0);
    }
}
