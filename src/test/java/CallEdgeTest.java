import java.util.function.IntSupplier;

/** The promises one by one: the last that is taken and the first that is refused, which refusal comes first, and that it changes nothing. */
public final class CallEdgeTest {
    private static final int LEAST = Integer.MIN_VALUE;
    private static final int MOST = Integer.MAX_VALUE;
    private static final String SPIN = "x: jump r0, x";

    public static void main(String[] args) {
        newObject();
        type();
        assembleAndPlace();
        feedDropWord();
        keep();
        keptRows();
        boot();
        bootOrder();
        fortyBoots();
        off();
        cut();
        run();
        sixtyThousand();
        input();
        inputTerm();
        output();
        state();
        registerAndMemory();
        channel();
        block();
        put();
        make();
        take();
        kindAndNumber();
        measure();
        knowsAndFar();
        same();
        told();
        latestBoot();
        Check.end("CallEdgeTest");
    }

    /**
     * Two partitions, of which 0 has put out a word, a SECRET and a PAIR(SECRET, NUMBER 5), sent and sealed; THE TEXT is "back", THE ROW
     * has four words, a word was shown, and the latest assemble() had a fault at 1.
     */
    private static PartHouse world() {
        Script s = new Script().silent(6, 9).silent(21).silent(11, 1).silent(13, 5).silent(14, 1, 2).silent(11, 3).silent(7, 0, 0).silent(9, 0, 1).silent(32, 0, 1);
        PartHouse x = Check.booted(new int[] {2, 0, 64, 2, 64, 17, 0, 1, 0, 1, 3, 2, 0, 50, 1, 50}, s.image(), "word 0");
        x.run(100);
        x.make(0, 5, 0, 0);
        x.make(2, 0, 0, 0);
        x.make(3, 1, 2, 0);
        Check.assemble(x, " ?");
        Check.typeText(x, "back");
        x.feed(1, 2, 3, 4);
        x.show(12 << 26);
        return x;
    }

    private static PartHouse darkWorld() {
        PartHouse x = world();
        x.off();
        return x;
    }

    private static void refused(PartHouse x, int want, String call, IntSupplier asks) {
        Check.refused(x, call, asks, want);
    }

    private static void newObject() {
        Check.about("No text, rows, boot; the power is OFF, the DISK empty; the OUTSIDE's TABLE is empty");
        PartHouse x = new PartHouse();
        for (int what = 0; what <= 8; what++) {
            Check.due("told " + what, x.told(what), 0);
        }
        Check.due("place", x.place(), -1);
        Check.due("shown, word", x.shown(0) + x.word(0), 0);
        Check.due("drop(0)", x.drop(0), 0);
        refused(x, -2, "drop(1)", () -> x.drop(1));
        for (int what = 0; what <= 9; what++) {
            int kept = what;
            refused(x, -2, "keep", () -> x.keep(kept));
            Check.due("safe", x.safe(what, 16), -1);
        }
        refused(x, -3, "boot", x::boot);
        refused(x, -3, "off", x::off);
        refused(x, -3, "cut", () -> x.cut(0));
        refused(x, -3, "run", () -> x.run(0));
        refused(x, -1, "input", () -> x.input(0, 0));
        refused(x, -1, "inputTerm", () -> x.inputTerm(0, 0));
        Check.due("output", x.output(0, 0, 0), -1);
        Check.due("state", x.state(0, 0), -1);
        Check.due("register, memory", x.register(0, 0) + x.memory(0, 0), 0);
        Check.due("channel", x.channel(0, 0), -1);
        for (int i = 0; i < 64; i++) {
            Check.due("block " + i, x.block(i, 0) + x.block(i, 1), 0);
        }
        refused(x, -1, "put", () -> x.put(0, 1, 1));
        Check.due("put of nothing", x.put(0, 0, 0), 0);
        refused(x, -1, "make", () -> x.make(4, 1, 0, 0));
        refused(x, -1, "take", () -> x.take(1, 0, 0));
        Check.due("kind", x.kind(1), -1);
        Check.due("number", x.number(1), 0);
        refused(x, -1, "measure", () -> x.measure(0));
        Check.due("knows, far", x.knows(-1, 1) + x.far(-1, 1) + x.knows(0, 1) + x.far(0, 1), -4);
        Check.due("same", x.same(-1, 1, -1, 1), -1);
        Check.due("flows", x.flows(0, 0), -1);
        Check.due("purge", x.purge(0), -1);
        Check.due("assemble", x.assemble(), 0);
        Check.due("make", x.make(0, 0, 0, 0), 1);
    }

    private static void type() {
        Check.about("-2 n is not 0 .. 8");
        PartHouse x = world();
        for (int n : new int[] {-1, 9, 10, 64, LEAST, MOST}) {
            refused(x, -2, "type of " + n, () -> x.type(-1, n));
        }
        Check.due("the text is as it was", x.assemble() * 1000 + x.told(8), 1000);
        Check.due("word", x.word(0), 39 << 26);
        Check.about("The n lowest octets of v, the highest first, come behind THE TEXT: how many it has; with n = 0 it is empty: 0");
        // "word 12;" by all lengths; octets of v above the n lowest do not count.
        String text = "word 12;";
        for (int n = 1; n <= 8; n++) {
            PartHouse y = new PartHouse();
            for (int i = 0; i < 8; i += n) {
                int count = Math.min(n, 8 - i);
                long v = -1;
                for (int k = 0; k < count; k++) {
                    v = v << 8 | text.charAt(i + k);
                }
                Check.due("type by " + n, y.type(v, count), i + count);
            }
            Check.due("assemble", y.assemble(), 1);
            Check.due("word", y.word(0), 12);
        }
        PartHouse y = new PartHouse();
        Check.due("n = 0 of an empty text", y.type(-1, 0), 0);
        Check.due("type", y.type(0x3F, 8), 8);
        Check.due("n = 0", y.type(-1, 0), 0);
        Check.due("no octet is left", y.assemble(), 0);
    }

    private static void assembleAndPlace() {
        Check.about("ASSEMBLING: how many words THE ROW has; -10 less the FAULT. THE TEXT is empty then");
        PartHouse x = new PartHouse();
        Check.due("2047 words", Check.assemble(x, "room 2047"), 2047);
        Check.due("the text", x.told(8), 0);
        Check.about("The place of the FAULT of the latest assemble(); -1 if it had none, or before");
        x = new PartHouse();
        Check.due("before", x.place(), -1);
        x.type('?', 1);
        Check.due("typed alone", x.place(), -1);
        String[] faulty = {"?", "5", "foo", "a:\na:", "ask -1", "room 2048\nback", "word x"};
        int[] places = {0, 0, 0, 3, 5, 10, 5};
        for (int i = 0; i < faulty.length; i++) {
            Check.due("assemble", Check.assemble(x, faulty[i]), -11 - i);
            Check.due("place", x.place(), places[i]);
            Check.due("the text", x.told(8), 0);
            x.type('?', 1);
            x.feed(1, 2, 3, 4);
            x.keep(0);
            Check.due("the place stays until the next assemble()", x.place(), places[i]);
            x.type(0, 0);
            Check.due("assemble of nothing", x.assemble(), 0);
            Check.due("no place", x.place(), -1);
        }
        Check.due("2048 words", Check.assemble(x, "room 2048"), 2048);
        Check.due("the text", x.told(8), 0);
    }

    private static void feedDropWord() {
        Check.about("The last n words of THE ROW go: how many it has. -2 n is below 0, or it has fewer");
        PartHouse x = world();
        for (int n : new int[] {-1, 5, LEAST, MOST}) {
            refused(x, -2, "drop " + n, () -> x.drop(n));
        }
        Check.due("drop(0)", x.drop(0), 4);
        Check.due("drop(1)", x.drop(1), 3);
        Check.due("the last one went", x.word(2) * 10 + x.word(3), 30);
        refused(x, -2, "drop(4)", () -> x.drop(4));
        Check.due("drop(3)", x.drop(3), 0);
        refused(x, -2, "drop(1) of none", () -> x.drop(1));
        Check.due("drop(0) of none", x.drop(0), 0);
        Check.about("Word i of THE ROW; 0 where there is none");
        Check.due("of an empty row", x.word(0), 0);
        Check.due("feed", x.feed(LEAST, -1, 0, MOST), 4);
        Check.due("words", x.word(0) == LEAST && x.word(1) == -1 && x.word(2) == 0 && x.word(3) == MOST ? 1 : 0, 1);
        for (int i : new int[] {-1, 4, 2047, 2048, LEAST, MOST}) {
            Check.due("word " + i, x.word(i), 0);
        }
        Check.about("Four words come behind THE ROW: how many it has. -4");
        for (int n = 2; n <= 512; n++) {
            Check.due("feed", x.feed(n, n, n, n), 4 * n);
        }
        refused(x, -4, "feed behind 2048", () -> x.feed(0, 0, 0, 0));
        Check.due("drop", x.drop(1), 2047);
        refused(x, -4, "feed behind 2047", () -> x.feed(0, 0, 0, 0));
        Check.due("drop", x.drop(3), 2044);
        Check.due("feed", x.feed(7, 8, 9, 10), 2048);
        Check.due("the last word", x.word(2047), 10);
    }

    private static void keep() {
        Check.about("-1 another what, -2 it has no word, or more than 256 (loader), 200 (THE CONFIG)");
        PartHouse x = world();
        for (int what : new int[] {-1, 10, LEAST, MOST}) {
            refused(x, -1, "keep " + what, () -> x.keep(what));
        }
        x.drop(4);
        for (int what = -1; what <= 10; what++) {
            int kept = what;
            refused(x, what < 0 || what > 9 ? -1 : -2, "keep " + what + " of no word", () -> x.keep(kept));
        }
        int[][] cases = {{8, 1, 1}, {8, 256, 256}, {8, 257, -2}, {8, 2048, -2}, {9, 1, 1}, {9, 200, 200}, {9, 201, -2}, {9, 2048, -2},
            {0, 1, 1}, {0, 2048, 2048}, {7, 1, 1}, {7, 2048, 2048}};
        for (int[] c : cases) {
            Check.due("assemble", Check.assemble(x, "room " + c[1]), c[1]);
            if (c[2] < 0) {
                refused(x, -2, "keep " + c[0] + " of " + c[1], () -> x.keep(c[0]));
            } else {
                Check.due("keep " + c[0] + " of " + c[1], x.keep(c[0]), c[2]);
                Check.due("the row is empty", x.told(7) + x.word(0), 0);
            }
        }
    }

    /** A keep() that is refused leaves what was kept before. */
    private static void keptRows() {
        Check.about("THE ROW becomes the loader (what = 8), THE CONFIG (9), or the image of partition what (0 .. 7), and is empty then");
        PartHouse x = Check.booted(Check.alone(0), SPIN);
        Check.due("R(0)", x.measure(0), 1);
        x.off();
        Check.assemble(x, "room 257");
        Check.due("keep", x.keep(8) + x.keep(9), -4);
        Check.due("boot", x.boot(), 1);
        Check.due("R(0) as it was", x.measure(0), 1);
        x.off();
        Check.due("keep, for another", x.keep(7), 257);
        Check.due("boot", x.boot(), 1);
        Check.due("R(0) as it was", x.measure(0), 1);
        // A row that is kept is kept as it was then.
        x.off();
        Check.keepRow(x, 0, 36 << 26, 5);
        x.feed(1, 2, 3, 4);
        x.boot();
        Check.due("memory", x.memory(0, 1) * 10 + x.memory(0, 2), 50);
        Check.due("the row stays", x.told(7), 4);
        Check.due("keep when ON", x.keep(0), 4);
        Check.due("memory stays", x.memory(0, 1), 5);
        x.off();
        x.boot();
        Check.due("it counts in the next boot", x.memory(0, 0) * 10 + x.memory(0, 3), 14);
    }

    private static void boot() {
        Check.about("-3 it is ON, or no loader or CONFIG was kept");
        PartHouse x = new PartHouse();
        Check.keepText(x, 0, SPIN);
        refused(x, -3, "nothing but an image", x::boot);
        Check.keepRow(x, Check.LOADER, 1);
        refused(x, -3, "no CONFIG", x::boot);
        PartHouse y = new PartHouse();
        Check.keepText(y, 0, SPIN);
        Check.keepRow(y, Check.CONFIG, Check.alone(0));
        refused(y, -3, "no loader", y::boot);
        Check.keepRow(y, Check.LOADER, 1);
        Check.due("boot", y.boot(), 1);
        refused(y, -3, "ON", y::boot);
        Check.about("-20 less p: p's image was not kept, or has more than SIZE words (the least p)");
        for (int p = 0; p < 8; p++) {
            PartHouse z = eight();
            Check.assemble(z, "room 17");
            z.keep(p);
            refused(z, -20 - p, "an image of 17 for " + p, z::boot);
            Check.assemble(z, "room 2048");
            z.keep(7);
            refused(z, -20 - p, "the least", z::boot);
            Check.assemble(z, "room 16");
            z.keep(7);
            Check.assemble(z, "room 16");
            z.keep(p);
            Check.due("an image of 16", z.boot(), 8);
        }
        for (int p = 0; p < 8; p++) {
            PartHouse z = new PartHouse();
            Check.keepRow(z, Check.LOADER, 1);
            Check.keepRow(z, Check.CONFIG, 2, 0, 16, 0, 16, 16, 0, 0, 1, 0, 1);
            for (int q = 0; q < 8; q++) {
                if (q != p) {
                    Check.keepRow(z, q, 1);
                }
            }
            Check.due("without an image of " + p, z.boot(), p < 2 ? -20 - p : 2);
        }
    }

    /** Eight partitions of 16 words, an image for each. */
    private static PartHouse eight() {
        PartHouse x = new PartHouse();
        Check.keepRow(x, Check.LOADER, 1);
        int[] config = new int[1 + 24 + 1 + 3];
        config[0] = 8;
        for (int p = 0; p < 8; p++) {
            config[1 + 3 * p] = 16 * p;
            config[2 + 3 * p] = 16;
            Check.keepText(x, p, SPIN);
        }
        config[26] = 1;
        config[28] = 1;
        Check.keepRow(x, Check.CONFIG, config);
        return x;
    }

    private static void bootOrder() {
        Check.about("the first that fits");
        PartHouse x = new PartHouse();
        Check.keepRow(x, Check.CONFIG, 0);
        refused(x, -3, "no loader, a FAULT, no image", x::boot);
        Check.keepRow(x, Check.LOADER, 1);
        refused(x, -100, "a FAULT, no image", x::boot);
        Check.keepRow(x, Check.CONFIG, Check.alone(0));
        refused(x, -20, "no image", x::boot);
        Check.keepText(x, 0, SPIN);
        Check.due("boot", x.boot(), 1);
        Check.keepRow(x, Check.CONFIG, 0);
        refused(x, -3, "ON and a FAULT", x::boot);
        x.off();
        refused(x, -100, "OFF and a FAULT", x::boot);
        Check.due("boots", x.told(1), 1);
        refused(x, -1, "input to a partition of none", () -> x.input(1, 1));
        refused(x, -3, "input to one of the latest boot", () -> x.input(0, 1));
    }

    private static void fortyBoots() {
        Check.about("-4 there were 40 boots");
        PartHouse x = Check.house(Check.alone(0), SPIN);
        for (int i = 1; i <= 40; i++) {
            Check.due("boot " + i, x.boot(), 1);
            Check.due("boots", x.told(1), i);
            if (i == 40) {
                refused(x, -3, "boot when ON", x::boot);
            }
            Check.due("off", x.off(), 0);
        }
        refused(x, -4, "boot 41", x::boot);
        refused(x, -4, "boot 42", x::boot);
        Check.keepRow(x, Check.CONFIG, 1, 0, 15);
        refused(x, -102, "a FAULT comes before", x::boot);
        Check.keepRow(x, Check.CONFIG, Check.alone(0));
        Check.assemble(x, "room 65");
        x.keep(0);
        refused(x, -20, "an image that is too long comes before", x::boot);
    }

    private static void off() {
        Check.about("The power is OFF: how many ticks were over. -3 it is OFF already");
        PartHouse x = Check.booted(Check.alone(0), SPIN);
        Check.due("at once", x.off(), 0);
        refused(x, -3, "off", x::off);
        x.boot();
        x.run(17);
        Check.due("off", x.off(), 17);
        Check.due("ticks stay", x.told(2), 17);
        refused(x, -3, "off", x::off);
    }

    private static void cut() {
        Check.about("-2 n is not 0 .. 1000, -3 it is OFF");
        PartHouse x = world();
        for (int n : new int[] {-1, 1001, LEAST, MOST}) {
            refused(x, -2, "cut " + n, () -> x.cut(n));
        }
        for (int n : new int[] {1000, 1, 999, 0}) {
            Check.due("cut " + n, x.cut(n), n);
        }
        x.off();
        refused(x, -2, "cut -1 when OFF", () -> x.cut(-1));
        refused(x, -2, "cut 1001 when OFF", () -> x.cut(1001));
        refused(x, -3, "cut 0 when OFF", () -> x.cut(0));
        refused(x, -3, "cut 1000 when OFF", () -> x.cut(1000));
        // A cut that is refused leaves the one before.
        PartHouse y = Check.booted(Check.alone(1), "ask 21\nadd r2, r1, r0\naddi r1, r0, 0\nask 32\njump r0, 0");
        Check.due("cut", y.cut(1), 1);
        Check.due("cut", y.cut(1001) + y.cut(-1), -4);
        Check.due("run", y.run(100), 3);
    }

    private static void run() {
        Check.about("n ticks: how many of these were over (fewer when the power went). -2 n is not 0 .. 2000, -3 it is OFF");
        PartHouse x = world();
        int before = x.told(2);
        for (int n : new int[] {-1, 2001, LEAST, MOST}) {
            refused(x, -2, "run " + n, () -> x.run(n));
        }
        Check.due("run(0)", x.run(0), 0);
        Check.due("run(1)", x.run(1), 1);
        Check.due("run(2000)", x.run(2000), 2000);
        Check.due("ticks", x.told(2), before + 2001);
        x.off();
        refused(x, -2, "run -1 when OFF", () -> x.run(-1));
        refused(x, -2, "run 2001 when OFF", () -> x.run(2001));
        refused(x, -3, "run 0 when OFF", () -> x.run(0));
        refused(x, -3, "run 2000 when OFF", () -> x.run(2000));
    }

    private static void sixtyThousand() {
        Check.about("-4 there would be more than 60000 in this boot");
        PartHouse x = Check.booted(Check.alone(0), SPIN);
        for (int i = 0; i < 29; i++) {
            Check.due("run", x.run(2000), 2000);
        }
        Check.due("run", x.run(1), 1);
        refused(x, -4, "58001 and 2000", () -> x.run(2000));
        Check.due("58001 and 1998", x.run(1998), 1998);
        refused(x, -4, "59999 and 2", () -> x.run(2));
        Check.due("59999 and 1", x.run(1), 1);
        refused(x, -4, "60000 and 1", () -> x.run(1));
        refused(x, -4, "60000 and 2000", () -> x.run(2000));
        refused(x, -2, "60000 and 2001", () -> x.run(2001));
        Check.due("60000 and 0", x.run(0), 0);
        Check.due("off", x.off(), 60000);
        refused(x, -3, "OFF comes before", () -> x.run(1));
        x.boot();
        Check.due("in this boot", x.run(2000), 2000);
    }

    private static void input() {
        Check.about("A word for a partition: how many wait for it. -1, -3 it is OFF, -4 64 wait");
        PartHouse x = world();
        for (int p : new int[] {-1, 2, 7, 8, LEAST, MOST}) {
            refused(x, -1, "input to " + p, () -> x.input(p, 1));
        }
        for (int i = 1; i <= 64; i++) {
            Check.due("input", x.input(0, -i), i);
        }
        refused(x, -4, "the 65th", () -> x.input(0, 1));
        refused(x, -1, "none such comes before", () -> x.input(2, 1));
        Check.due("the other one's are its own", x.input(1, 1), 1);
        Check.due("waiting", x.state(0, 8) * 10 + x.state(1, 8), 641);
        Check.due("a HALTED one's wait too", x.state(1, 1), 1);
        x.off();
        refused(x, -3, "OFF comes before no room", () -> x.input(0, 1));
        refused(x, -1, "none such comes before OFF", () -> x.input(2, 1));
        x.boot();
        Check.due("a boot empties", x.input(0, 1), 1);
    }

    private static void inputTerm() {
        Check.about("-1 no such partition or HANDLE, -3 it is OFF, -4 64 wait");
        PartHouse x = world();
        for (int p : new int[] {-1, 2, LEAST, MOST}) {
            refused(x, -1, "to " + p, () -> x.inputTerm(p, 1));
        }
        for (int h : new int[] {-1, 0, 4, 600, 601, LEAST, MOST}) {
            refused(x, -1, "of " + h, () -> x.inputTerm(0, h));
        }
        for (int i = 1; i <= 64; i++) {
            Check.due("inputTerm", x.inputTerm(0, 1 + i % 3), i);
        }
        refused(x, -4, "the 65th", () -> x.inputTerm(0, 1));
        refused(x, -1, "none such comes before", () -> x.inputTerm(0, 4));
        Check.due("words wait by themselves", x.input(0, 1), 1);
        Check.due("the other one's are its own", x.inputTerm(1, 3), 1);
        x.off();
        refused(x, -3, "OFF comes before no room", () -> x.inputTerm(0, 1));
        refused(x, -1, "none such comes before OFF", () -> x.inputTerm(0, 4));
        refused(x, -1, "none such comes before OFF", () -> x.inputTerm(2, 1));
    }

    private static void output() {
        Check.about("what = 0: 0 a word, 1 a TERM; 1: the word, or the OUTSIDE's HANDLE of it. -1 there is none such, -2 another what");
        for (int power = 0; power <= 1; power++) {
            PartHouse x = power == 0 ? darkWorld() : world();
            for (int p : new int[] {-1, 2, LEAST, MOST}) {
                refused(x, -1, "output of " + p, () -> x.output(p, 0, 0));
                refused(x, -1, "output of " + p + ", another what", () -> x.output(p, 0, 2));
            }
            for (int i : new int[] {-1, 3, 199, 200, LEAST, MOST}) {
                refused(x, -1, "output " + i, () -> x.output(0, i, 1));
                refused(x, -1, "output " + i + ", another what", () -> x.output(0, i, -1));
            }
            refused(x, -1, "one that has none", () -> x.output(1, 0, 0));
            for (int what : new int[] {-1, 2, LEAST, MOST}) {
                refused(x, -2, "what " + what, () -> x.output(0, 0, what));
                refused(x, -2, "what " + what + " of a TERM", () -> x.output(0, 1, what));
            }
            Check.due("kinds", x.output(0, 0, 0) * 100 + x.output(0, 1, 0) * 10 + x.output(0, 2, 0), 11);
            Check.due("nothing was told by that", x.told(6), 3);
            Check.due("the word", x.output(0, 0, 1), 9);
            Check.due("the SECRET", x.output(0, 1, 1), 4);
            Check.due("the PAIR", x.output(0, 2, 1), 5);
            Check.due("again", x.output(0, 1, 1), 4);
            Check.due("kinds", x.kind(4) * 10 + x.kind(5), 23);
        }
    }

    private static void state() {
        Check.about("-1 there is none such, -2 another what");
        for (int power = 0; power <= 1; power++) {
            PartHouse x = power == 0 ? darkWorld() : world();
            for (int p : new int[] {-1, 2, 8, LEAST, MOST}) {
                for (int what : new int[] {-1, 0, 10, 11}) {
                    Check.due("state of " + p, x.state(p, what), -1);
                }
            }
            for (int what : new int[] {-1, 11, 12, LEAST, MOST}) {
                Check.due("what " + what, x.state(0, what), -2);
            }
            int[] first = {x.state(0, 0), 0, 0, 0, 0, 0, 3, 3, 0, 0, 1};
            int[] second = {0, 1, 1, 0, 0, 0, 0, 0, 0, 0, 0};
            for (int what = 0; what <= 10; what++) {
                Check.due("state " + what + " of 0", x.state(0, what), first[what]);
                Check.due("state " + what + " of 1", x.state(1, what), second[what]);
            }
        }
        Check.about("10 SEALS (one that the power cut does not count)");
        PartHouse x = Check.booted(Check.alone(1), "ask 21\nx: addi r1, r0, 0\naddi r2, r0, 1\nask 32\njump r0, x");
        x.cut(3);
        x.run(100);
        Check.due("SEALS", x.state(0, 10), 2);
        Check.due("writes", x.told(5), 3);
    }

    private static void registerAndMemory() {
        Check.about("A register of a partition in the latest boot; 0 where there is none");
        StringBuilder text = new StringBuilder();
        for (int r = 0; r <= 15; r++) {
            text.append("addi r" + r + ", r0, " + (100 + r) + "\n");
        }
        PartHouse x = Check.booted(new int[] {2, 0, 2048, 0, 2048, 16, 0, 0, 2, 0, 50, 1, 50}, text + "stw r15, r0, 8188\njump r0, 0", "addi r1, r0, 3\nstw r1, r0, 60\nback");
        x.run(100);
        for (int r = 0; r <= 15; r++) {
            Check.due("register " + r, x.register(0, r), r == 0 ? 0 : 100 + r);
        }
        for (int r : new int[] {-1, 16, 17, LEAST, MOST}) {
            Check.due("register " + r, x.register(0, r), 0);
        }
        for (int p : new int[] {-1, 2, 8, LEAST, MOST}) {
            Check.due("register of " + p, x.register(p, 1), 0);
            Check.due("memory of " + p, x.memory(p, 0), 0);
        }
        Check.about("Word i of a partition's REGION in the latest boot; 0 where there is none");
        Check.due("the last of 2048", x.memory(0, 2047), 115);
        Check.due("the last of 16", x.memory(1, 15), 3);
        Check.due("the first", x.memory(1, 0), 12 << 26 | 1 << 22 | 3);
        for (int i : new int[] {-1, 2048, 2049, LEAST, MOST}) {
            Check.due("word " + i + " of 2048", x.memory(0, i), 0);
        }
        for (int i : new int[] {-1, 16, 17, 2047, 2048}) {
            Check.due("word " + i + " of 16", x.memory(1, i), 0);
        }
        x.off();
        Check.due("OFF", x.memory(1, 15) * 1000 + x.register(0, 15), 3115);
    }

    private static void channel() {
        Check.about("-1 there is none such, -2 what is below 0 or above 20");
        for (int power = 0; power <= 1; power++) {
            PartHouse x = power == 0 ? darkWorld() : world();
            for (int c : new int[] {-1, 1, 15, 16, LEAST, MOST}) {
                for (int what : new int[] {-1, 0, 20, 21}) {
                    Check.due("channel " + c, x.channel(c, what), -1);
                }
            }
            for (int what : new int[] {-1, 21, 22, LEAST, MOST}) {
                Check.due("what " + what, x.channel(0, what), -2);
            }
            int[] due = {0, 1, 3, 1, 1, x.memory(0, 0), x.memory(0, 1), x.memory(0, 2)};
            for (int what = 0; what <= 20; what++) {
                Check.due("what " + what, x.channel(0, what), what < due.length ? due[what] : 0);
            }
        }
        Check.about("3 whether something was sent since the latest RECEIVE, 4 whether a TERM was ever sent");
        Script from = new Script().silent(13, 4).silent(0).silent(7, 0, 0).silent(0).silent(9, 0, 1).silent(0).silent(7, 0, 0).silent(7, 0, 0);
        Script to = new Script().silent(8, 0, 100).does("ask 0").silent(8, 0, 100).silent(0).silent(10, 0).silent(0).silent(8, 0, 100);
        PartHouse both = Check.booted(new int[] {2, 0, 32, 0, 32, 32, 0, 1, 0, 1, 1, 2, 0, 10, 1, 10}, from.image(), to.image());
        int[] sent = {0, 1, 0, 1};
        int[] terms = {0, 0, 1, 1};
        for (int turn = 0; turn < 4; turn++) {
            both.run(10);
            Check.due("sent, turn " + turn, both.channel(0, 3), sent[turn]);
            Check.due("a TERM, turn " + turn, both.channel(0, 4), terms[turn]);
            both.run(10);
            Check.due("sent, behind the other's turn " + turn, both.channel(0, 3), 0);
            Check.due("a TERM, behind the other's turn " + turn, both.channel(0, 4), terms[turn]);
        }
        Check.about("5 + i word i of what was sent last (0 where there is none)");
        PartHouse x = Check.booted(new int[] {2, 0, 16, 0, 16, 16, 0, 2, 0, 1, 16, 0, 1, 1, 1, 0, 50},
            "addi r1, r0, 0\nask 7\naddi r1, r0, 1\naddi r2, r0, 40\nask 7\njump r0, 0\nroom 4\nword 70\nword 71\nword 72\nword 73\nword 74\nword 75", SPIN);
        x.run(1);
        for (int what = 3; what <= 20; what++) {
            Check.due("nothing sent yet", x.channel(0, what), 0);
        }
        x.run(10);
        Check.due("word 15", x.channel(0, 20), 75);
        Check.due("word 14", x.channel(0, 19), 74);
        Check.due("word 0 of the short one", x.channel(1, 5), 70);
        Check.due("word 1 of the short one", x.channel(1, 6), 0);
    }

    private static void block() {
        Check.about("-1 there is none such, -2 another what");
        for (int power = 0; power <= 1; power++) {
            PartHouse x = power == 0 ? darkWorld() : world();
            for (int i : new int[] {-1, 64, LEAST, MOST}) {
                for (int what : new int[] {-1, 0, 1, 2}) {
                    refused(x, -1, "block " + i, () -> x.block(i, what));
                }
            }
            for (int what : new int[] {-1, 2, LEAST, MOST}) {
                refused(x, -2, "what " + what, () -> x.block(1, what));
                refused(x, -2, "what " + what + " of an empty one", () -> x.block(0, what));
            }
            Check.due("VERSIONS", x.block(0, 0) * 10 + x.block(1, 0), 1);
            Check.due("an empty one", x.block(0, 1), 0);
            Check.due("HANDLES", x.told(6), 3);
            Check.due("the TERM", x.block(1, 1), 4);
            Check.due("again", x.block(1, 1), 4);
            Check.due("kind", x.kind(4), 8);
        }
    }

    private static void put() {
        Check.about("-1 no such BLOCK or HANDLE, -2 version is below 1, -3 the power is ON");
        for (int power = 0; power <= 1; power++) {
            PartHouse x = power == 0 ? darkWorld() : world();
            for (int i : new int[] {-1, 64, LEAST, MOST}) {
                refused(x, -1, "BLOCK " + i, () -> x.put(i, 1, 1));
                refused(x, -1, "BLOCK " + i + ", to be empty", () -> x.put(i, 0, 0));
            }
            for (int h : new int[] {-1, 4, 600, LEAST, MOST}) {
                refused(x, -1, "HANDLE " + h, () -> x.put(0, 1, h));
                refused(x, -1, "HANDLE " + h + " and version 0", () -> x.put(0, 0, h));
            }
            for (int version : new int[] {0, -1, LEAST}) {
                refused(x, -2, "version " + version, () -> x.put(1, version, 1));
            }
        }
        PartHouse x = world();
        refused(x, -3, "ON", () -> x.put(0, 1, 1));
        refused(x, -3, "ON, to be empty", () -> x.put(1, 1, 0));
        refused(x, -3, "ON, to be empty, version 0", () -> x.put(1, 0, 0));
        x.off();
        Check.due("version 1", x.put(0, 1, 1), 0);
        Check.due("VERSION and TERM", x.block(0, 0) * 10 + x.block(0, 1), 11);
        Check.due("version MAX", x.put(0, MOST, 3), 0);
        Check.due("VERSION", x.block(0, 0), MOST);
        Check.due("TERM", x.block(0, 1), 3);
        Check.about("with h = 0 it is empty (version does not count): 0");
        for (int version : new int[] {0, -1, 1, LEAST, MOST}) {
            x.put(0, 5, 1);
            Check.due("put of none", x.put(0, version, 0), 0);
            Check.due("empty", x.block(0, 0) + x.block(0, 1), 0);
        }
        Check.due("the SEAL's BLOCK", x.block(1, 0), 1);
        Check.due("put over it", x.put(1, 7, 2), 0);
        Check.due("VERSION and TERM", x.block(1, 0) * 10 + x.block(1, 1), 72);
    }

    private static void make() {
        Check.about("-1 no such HANDLE, -2 another kind");
        for (int power = 0; power <= 1; power++) {
            PartHouse x = power == 0 ? darkWorld() : world();
            for (int kind : new int[] {-1, 1, 10, 11, LEAST, MOST}) {
                refused(x, -2, "kind " + kind, () -> x.make(kind, 1, 1, 1));
                refused(x, -2, "kind " + kind + " of no HANDLES", () -> x.make(kind, 0, 0, 0));
            }
            int[] parts = {0, 0, 0, 2, 1, 2, 1, 2, 3, 2};
            for (int kind = 3; kind <= 9; kind++) {
                int made = kind;
                for (int part = 0; part < 3; part++) {
                    for (int h : new int[] {0, -1, 99, LEAST, MOST}) {
                        int[] hs = {1, 2, 3};
                        hs[part] = h;
                        if (part < parts[kind]) {
                            refused(x, -1, "kind " + kind + " of " + java.util.Arrays.toString(hs), () -> x.make(made, hs[0], hs[1], hs[2]));
                        }
                    }
                }
            }
        }
        Check.about("those that a kind does not need do not count");
        PartHouse x = world();
        int[][] cases = {{0, 6, 0, 0, 4}, {0, 6, -1, 99, 4}, {2, -1, -1, -1, 5}, {2, 0, 0, 0, 6}, {3, 1, 2, -1, 3}, {4, 1, 0, 0, 7}, {4, 1, -1, 99, 7}, {5, 1, 2, 0, 8},
            {5, 1, 2, 99, 8}, {6, 1, 0, 0, 9}, {6, 1, 99, -1, 9}, {7, 1, 2, LEAST, 10}, {7, 1, 2, 3, 10}, {8, 1, 2, 3, 11}, {8, 1, 2, 2, 12}, {9, 1, 2, 0, 13}, {9, 1, 2, 1, 13}};
        for (int[] c : cases) {
            Check.due("make " + java.util.Arrays.toString(c), x.make(c[0], c[1], c[2], c[3]), c[4]);
            Check.due("its kind", x.kind(c[4]), c[0]);
        }
    }

    private static void take() {
        Check.about("-1 no such HANDLE (key: of 4 alone), -2 another what, -3 it is not such a TERM, or key is another one");
        PartHouse x = new PartHouse();
        // 1 NUMBER, 2, 3 SECRETS, then of 2, 3, 1 each kind: 4 PAIR, 5 HASH, 6 KEYED, 7 PUBLIC, 8 SIGNED, 9 CLOSED, 10 DERIVED.
        x.make(0, 7, 0, 0);
        x.make(2, 0, 0, 0);
        x.make(2, 0, 0, 0);
        for (int kind = 3; kind <= 9; kind++) {
            Check.due("make", x.make(kind, 2, 3, 1), kind + 1);
        }
        for (int h : new int[] {0, -1, 11, LEAST, MOST}) {
            for (int what = -1; what <= 5; what++) {
                int asked = what;
                refused(x, -1, "take of " + h, () -> x.take(h, asked, 1));
            }
        }
        for (int h = 1; h <= 10; h++) {
            int of = h;
            for (int what : new int[] {-1, 5, LEAST, MOST}) {
                refused(x, -2, "what " + what + " of " + h, () -> x.take(of, what, 0));
            }
            for (int key : new int[] {0, -1, 11, MOST}) {
                refused(x, -1, "no key, of " + h, () -> x.take(of, 4, key));
            }
            Check.due("the first of " + h, x.take(h, 0, 0), h == 4 ? 2 : -3);
            Check.due("the second of " + h, x.take(h, 1, -1), h == 4 ? 3 : -3);
            Check.due("a of SIGNED " + h, x.take(h, 2, 99), h == 8 ? 3 : -3);
            Check.due("n of " + h, x.take(h, 3, LEAST), h == 9 ? 3 : -3);
            for (int key = 1; key <= 10; key++) {
                Check.due("a of " + h + " with " + key, x.take(h, 4, key), h == 9 && key == 2 ? 1 : -3);
            }
        }
        Check.due("HANDLES", x.told(6), 10);
    }

    private static void kindAndNumber() {
        Check.about("The kind of a TERM of the OUTSIDE's TABLE; -1 no such HANDLE");
        PartHouse x = world();
        for (int h : new int[] {0, -1, 4, 5, 600, 601, LEAST, MOST}) {
            Check.due("kind " + h, x.kind(h), -1);
            Check.due("number " + h, x.number(h), 0);
        }
        Check.due("kinds", x.kind(1) * 100 + x.kind(2) * 10 + x.kind(3), 23);
        Check.about("The w of a NUMBER of the OUTSIDE's TABLE; 0 for others");
        Check.due("numbers", x.number(1) * 100 + x.number(2) * 10 + x.number(3), 500);
        for (int w : new int[] {LEAST, MOST, -1, 0}) {
            Check.due("NUMBER " + w, x.number(x.make(0, w, 0, 0)), w);
        }
    }

    private static void measure() {
        Check.about("The OUTSIDE's HANDLE of R(p) in the latest boot. -1 there is none such");
        PartHouse x = world();
        for (int p : new int[] {-1, 2, 7, 8, LEAST, MOST}) {
            refused(x, -1, "measure of " + p, () -> x.measure(p));
        }
        Check.due("R(1)", x.measure(1), 4);
        Check.due("R(0)", x.measure(0), 5);
        Check.due("again", x.measure(1) * 10 + x.measure(0), 45);
        x.off();
        Check.due("OFF", x.measure(1) * 10 + x.measure(0), 45);
        Check.keepText(x, 0, SPIN);
        Check.due("an image that was not booted", x.measure(0), 5);
        x.boot();
        Check.due("then it was", x.measure(0), 6);
        Check.due("the other one's is as it was", x.measure(1), 4);
    }

    private static void knowsAndFar() {
        Check.about("-1 there is none such, -3 it is not KNOWN");
        for (int power = 0; power <= 1; power++) {
            PartHouse x = power == 0 ? darkWorld() : world();
            for (int p : new int[] {-2, 2, 8, LEAST, MOST}) {
                Check.due("knows of " + p, x.knows(p, 1), -1);
                Check.due("far of " + p, x.far(p, 1), -1);
            }
            for (int h : new int[] {0, -1, 4, 100, 101, LEAST, MOST}) {
                Check.due("knows of 0, " + h, x.knows(0, h), -1);
                Check.due("far of 0, " + h, x.far(0, h), -1);
                Check.due("knows of the OUTSIDE, " + h, x.knows(-1, h), -1);
                Check.due("far of the OUTSIDE, " + h, x.far(-1, h), -1);
            }
            Check.due("one that has none", x.knows(1, 1) + x.far(1, 1), -2);
            for (int h = 1; h <= 3; h++) {
                Check.due("known to the OUTSIDE", x.knows(-1, h) * 10 + x.far(-1, h), 10);
                Check.due("what 0 has went out, or is a NUMBER", x.knows(0, h) * 10 + x.far(0, h), 10);
            }
        }
        PartHouse x = Check.booted(Check.alone(0), "ask 21\nback");
        x.run(2);
        Check.due("knows", x.knows(0, 1), 0);
        Check.due("far", x.far(0, 1), -3);
    }

    private static void same() {
        Check.about("Whether two HANDLES, of two TABLES (partitions; -1 the OUTSIDE's), are of the same TERM: 1 or 0. -1 there is none such");
        for (int power = 0; power <= 1; power++) {
            PartHouse x = power == 0 ? darkWorld() : world();
            int[][] none = {{-2, 1}, {2, 1}, {0, 0}, {0, 4}, {0, -1}, {-1, 0}, {-1, 4}, {1, 1}, {LEAST, 1}, {MOST, 1}, {0, LEAST}, {-1, MOST}};
            for (int[] n : none) {
                Check.due("the first is none", x.same(n[0], n[1], 0, 1), -1);
                Check.due("the second is none", x.same(0, 1, n[0], n[1]), -1);
                Check.due("both are none", x.same(n[0], n[1], n[0], n[1]), -1);
            }
            Check.due("NUMBER 5", x.same(0, 2, -1, 1) * 10 + x.same(-1, 1, 0, 2), 11);
            Check.due("SECRETS", x.same(0, 1, -1, 2), 0);
            Check.due("PAIRS", x.same(0, 3, -1, 3), 0);
            Check.due("of one TABLE", x.same(0, 1, 0, 1) * 10 + x.same(0, 1, 0, 2), 10);
        }
    }

    private static void told() {
        Check.about("-2 another what");
        for (int power = 0; power <= 1; power++) {
            PartHouse x = power == 0 ? darkWorld() : world();
            for (int what : new int[] {-1, 9, 10, LEAST, MOST}) {
                Check.due("told " + what, x.told(what), -2);
            }
            int[] due = {power, 1, 100, 2, 1, 1, 3, 4, 4};
            for (int what = 0; what <= 8; what++) {
                Check.due("told " + what, x.told(what), due[what]);
            }
        }
    }

    private static void latestBoot() {
        Check.about("in the latest boot");
        PartHouse x = darkWorld();
        String before = Snapshot.of(x);
        Check.keepRow(x, Check.CONFIG, 1, 0, 15);
        Check.due("a boot that is refused", x.boot(), -102);
        x.feed(1, 2, 3, 4);
        Check.due("is not the latest", Snapshot.of(x).equals(before) ? 1 : 0, 1);
        Check.keepRow(x, Check.CONFIG, 1, 0, 64, 2, 0, 1, 0, 9);
        Check.due("one that is not", x.boot(), 1);
        Check.due("is", x.told(3) * 10 + x.told(4), 10);
        Check.due("no partition 1", x.state(1, 0) + x.output(1, 0, 0) + x.measure(1) + x.knows(1, 1) + x.input(1, 1), -5);
        Check.due("no CHANNEL", x.channel(0, 0), -1);
        Check.due("the DISK stays", x.block(1, 0), 1);
        Check.due("the OUTSIDE's TABLE stays", x.told(6), 3);
        Check.due("writes in all boots", x.told(5), 1);
    }
}
