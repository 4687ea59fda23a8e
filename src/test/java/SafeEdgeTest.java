import java.util.Random;

/** Section 9, SAFE IMAGES, sentence by sentence, at its boundaries. */
public final class SafeEdgeTest {
    public static void main(String[] args) {
        reachedFirst();
        reachedNext();
        reachedTargets();
        noSuchWord();
        ops();
        asks();
        registers();
        addresses();
        storedWords();
        storedPlaces();
        lengths();
        leastPlace();
        noTrap();
        Check.end("SafeEdgeTest");
    }

    private static void safe(int n, int want, String image) {
        PartHouse x = new PartHouse();
        Check.keepText(x, 0, image);
        Check.due("safe for " + n + " of <" + image + ">", x.safe(0, n), want);
        Check.due("and again", x.safe(0, n), want);
    }

    private static void safe(int n, int want, int... image) {
        PartHouse x = new PartHouse();
        Check.keepRow(x, 7, image);
        Check.due("safe for " + n + " of " + java.util.Arrays.toString(image), x.safe(7, n), want);
    }

    private static int op(int op, int d, int a, int m) {
        return op << 26 | d << 22 | a << 18 | m & 0x3FFFF;
    }

    private static final int SELF = 36 << 26;

    private static void reachedFirst() {
        Check.about("REACHED are place 0");
        safe(16, 1, "jump r0, 0");
        safe(16, -100, "word 0");
        safe(16, 1, "jump r0, 0\nword 0\nback");
    }

    private static void reachedNext() {
        Check.about("the next place of each REACHED one whose word is no jump");
        safe(16, -101, "add r0, r0, r0\nword 0");
        safe(16, 1, "jump r0, 2\nword 0\njump r0, 0");
        safe(16, -101, "beq r0, r0, 2\nword 0\njump r0, 0");
        safe(16, -102, "bne r0, r0, 0\nask 0\nword 0");
        safe(16, -103, "ldw r1, r0, 0\nstw r1, r0, 60\nhigh r1, 5\nword 0");
        // Behind one that is BAD itself, too: what is reached over it is the least BAD place.
        safe(16, -101, "jump r0, 3\nword 0\njump r0, 0\nword 0\njump r0, -3");
        safe(16, -101, "jump r0, 3\nword 0\njump r0, 0\njumpr r0, r0, 0\njump r0, -3");
        safe(16, -101, "jump r0, 3\nword 0\njump r0, 0\nback\njump r0, -3");
        safe(16, -103, "jump r0, 3\nword 0\njump r0, 0\nback\njump r0, 0");
    }

    private static void reachedTargets() {
        Check.about("where the branches (30 to 35) and jumps (36) of REACHED ones go (place + M)");
        for (int branch = 30; branch <= 35; branch++) {
            safe(16, -102, op(branch, 0, 0, 2), SELF, 0);
            safe(16, -103, op(branch, 1, 2, 3), SELF, 0, 0);
            safe(16, 1, op(branch, 1, 2, 3), SELF, 0, op(36, 0, 0, -2));
            safe(16, 1, op(branch, 1, 2, 0), SELF);
            safe(16, -100, op(branch, 1, 2, -1), SELF);
        }
        safe(16, -102, op(36, 0, 0, 2), SELF, 0);
        safe(16, -101, op(36, 0, 0, 2), 0, op(36, 0, 0, -1));
        safe(16, 1, op(36, 0, 0, 2), 0, op(36, 5, 0, -2));
        // What is not REACHED goes nowhere.
        safe(16, 1, SELF, op(30, 0, 0, 2), SELF, 0);
    }

    private static void noSuchWord() {
        Check.about("if the image has no such word");
        safe(16, -101, "add r0, r0, r0");
        safe(16, -101, "jump r0, 1");
        safe(16, -107, "jump r0, 7");
        safe(16, -100 - 131071, "jump r0, 131071");
        safe(16, -103, "beq r0, r0, 3\njump r0, 0");
        safe(16, -102, "beq r0, r0, 1\nbeq r0, r0, 131071");
        StringBuilder full = new StringBuilder();
        for (int i = 0; i < 16; i++) {
            full.append("add r1, r1, r1\n");
        }
        safe(16, -116, full.toString());
        safe(16, 1, full.substring(15) + "jump r0, -15");
        Check.about("a place below 0 counts as 0");
        safe(16, -100, "jump r0, -1");
        safe(16, -100, "jump r0, -131072");
        safe(16, -100, "add r0, r0, r0\njump r0, -2");
        safe(16, 1, "add r0, r0, r0\njump r0, -1");
        safe(16, -100, "add r0, r0, r0\nbeq r0, r0, -9\nword 0");
    }

    private static void ops() {
        Check.about("or its word has an op that is not 1 .. 36 or 38");
        for (int op = 0; op < 64; op++) {
            boolean bad = op == 0 || op == 37 || op > 38;
            // A load and a store are of word 8, which is not REACHED.
            int m = op >= 22 && op <= 29 ? 32 : op >= 30 && op <= 36 ? 1 : 0;
            safe(16, bad ? -100 : 1, op(op, 0, 0, m), SELF);
            safe(16, bad ? -101 : 1, op(12, 0, 0, 0), op(op, 15, 0, m), SELF);
            if (op < 22) {
                safe(16, bad ? -100 : 1, op(op, 15, 15, -1), SELF);
            }
        }
    }

    private static void asks() {
        Check.about("or asks 1 or 8 or a number that is none of 0 to 34");
        for (int ask = 0; ask <= 40; ask++) {
            safe(16, ask == 1 || ask == 8 || ask > 34 ? -100 : 1, op(38, 0, 0, ask), SELF);
        }
        safe(16, -100, op(38, 0, 0, -1), SELF);
        safe(16, -100, op(38, 0, 0, 131071), SELF);
        safe(16, -100, op(38, 0, 0, -131072), SELF);
        safe(16, 1, op(38, 15, 15, 34), SELF);
    }

    private static void registers() {
        Check.about("or loads, or stores, by an a other than 0");
        for (int op = 22; op <= 29; op++) {
            for (int a = 0; a <= 15; a++) {
                safe(16, a == 0 ? 1 : -100, op(op, 3, a, 32), SELF);
            }
            safe(16, 1, op(op, 15, 0, 32), SELF);
        }
        for (int a = 0; a <= 15; a++) {
            safe(16, 1, op(12, 1, a, 5), op(1, 1, a, a << 14), SELF);
        }
    }

    private static void addresses() {
        Check.about("or at an ADDRESS M that would TRAP in n words");
        int[] widths = {4, 2, 2, 1, 1, 4, 2, 1};
        for (int n : new int[] {16, 17, 2047, 2048}) {
            for (int op = 22; op <= 29; op++) {
                int width = widths[op - 22];
                int end = 4 * n;
                int[] ms = {8, 9, 10, 11, 12, end - 4, end - 3, end - 2, end - 1, end, end + 1, end + 2, end + 4, -1, -2, -4, -131072, 131071, 131068};
                for (int m : ms) {
                    boolean good = m >= 0 && m < end && m % width == 0;
                    safe(n, good ? 1 : -100, op(op, 1, 0, m), SELF);
                }
            }
        }
    }

    private static void storedWords() {
        Check.about("or stores into a REACHED word");
        int[] widths = {4, 2, 1};
        for (int op = 27; op <= 29; op++) {
            int width = widths[op - 27];
            for (int m = 0; m < 24; m += width) {
                // Words 0, 1 and 3 are REACHED, word 2 is not; word 4 is of the image, word 5 is not.
                boolean bad = m / 4 == 0 || m / 4 == 1 || m / 4 == 3;
                safe(16, bad ? -100 : 1, op(op, 1, 0, m), op(36, 0, 0, 2), SELF, SELF, 0);
            }
        }
        for (int op = 22; op <= 26; op++) {
            safe(16, 1, op(op, 1, 0, 0), SELF);
        }
        // A word that is REACHED only behind the store, and one that is REACHED by a branch that comes later.
        safe(16, -100, "stw r0, r0, 8\nadd r0, r0, r0\njump r0, 0");
        safe(16, -100, "stw r0, r0, 12\nbeq r0, r0, 2\njump r0, 0\njump r0, 0");
        safe(16, 1, "stw r0, r0, 12\nbeq r0, r0, 1\njump r0, 0\njump r0, 0");
    }

    private static void storedPlaces() {
        Check.about("stores into a REACHED word");
        // A place where the image has no word is no REACHED word, though it is a REACHED place.
        safe(16, -102, "stw r0, r0, 8\nadd r0, r0, r0");
        safe(16, -105, "stw r0, r0, 20\njump r0, 4");
        PartHouse x = new PartHouse();
        Check.keepText(x, 0, "jump r0, 3\nword 0\nword 0\njump r0, 0");
        Check.due("words 0 and 3 are REACHED", x.safe(0, 16), 1);
        Check.keepText(x, 0, "stw r0, r0, 12\njump r0, 0\nword 0\nword 0");
        Check.due("what another image REACHED does not count", x.safe(0, 16), 1);
    }

    private static void lengths() {
        Check.about("-1 none is kept, -2 n is not 16 .. 2048, or the image has more words");
        PartHouse x = new PartHouse();
        for (int p : new int[] {-1, 0, 7, 8, 9, Integer.MAX_VALUE, Integer.MIN_VALUE}) {
            Check.due("none of " + p, x.safe(p, 16), -1);
            Check.due("none of " + p + ", and a wrong n", x.safe(p, 15), -1);
        }
        for (int length : new int[] {1, 15, 16, 17, 2047, 2048}) {
            Check.due("assemble", Check.assemble(x, "jump r0, 0" + (length > 1 ? "\nroom " + (length - 1) : "")), length);
            x.keep(3);
            for (int n : new int[] {Integer.MIN_VALUE, -1, 0, 15, 16, 17, length - 1, length, length + 1, 2047, 2048, 2049, Integer.MAX_VALUE}) {
                boolean good = n >= 16 && n <= 2048 && length <= n;
                Check.due(length + " words for " + n, x.safe(3, n), good ? 1 : -2);
            }
        }
        x.feed(1, 2, 3, 4);
        x.keep(8);
        x.feed(1, 2, 3, 4);
        x.keep(9);
        Check.due("the loader is no image", x.safe(8, 16), -1);
        Check.due("THE CONFIG is no image", x.safe(9, 16), -1);
    }

    private static void leastPlace() {
        Check.about("-100 less the least REACHED place that is BAD");
        safe(16, -101, "jump r0, 4\nword 0\njump r0, 3\nback\nbeq r0, r0, -3\nword 0");
        safe(16, -103, "jump r0, 4\nword 0\njump r0, 3\nback\njump r0, -1");
        PartHouse x = new PartHouse();
        Check.due("assemble", Check.assemble(x, "jump r0, x\nroom 2046\nx: word 0"), 2048);
        x.keep(0);
        Check.due("the last of all", x.safe(0, 2048), -2147);
        // As many places as can be, each REACHED by the one before; the last one goes behind all, or to itself.
        for (int i = 0; i < 512; i++) {
            x.feed(1 << 26, 1 << 26, 1 << 26, 1 << 26);
        }
        x.keep(0);
        Check.due("2048 places", x.safe(0, 2048), -2148);
        for (int i = 0; i < 511; i++) {
            x.feed(1 << 26, 1 << 26, 1 << 26, 1 << 26);
        }
        x.feed(1 << 26, 1 << 26, 1 << 26, SELF);
        x.keep(0);
        Check.due("2048 places", x.safe(0, 2048), 1);
        StringBuilder all = new StringBuilder();
        for (int i = 0; i < 400; i++) {
            all.append("beq r1, r2, 2\n");
        }
        safe(2048, -100 - 402, all + "beq r1, r2, 1\nadd r1, r2, r3");
        safe(2048, 1, all + "beq r1, r2, 1\njump r0, -401");
    }

    /** An image that is SAFE runs without a TRAP, whatever comes in. */
    private static void noTrap() {
        Check.about("(It has no TRAP then.)");
        Random random = new Random(41);
        int ran = 0;
        for (int i = 0; i < 1500; i++) {
            int[] image = new int[6 + random.nextInt(12)];
            for (int k = 0; k < image.length; k++) {
                image[k] = word(random, k, image.length);
            }
            image[image.length - 1] = op(36, 0, 0, -random.nextInt(image.length));
            PartHouse x = new PartHouse();
            Check.keepRow(x, 0, image);
            Check.keepRow(x, 1, image);
            if (x.safe(0, 24) == 1) {
                ran++;
                Check.keepRow(x, 8, 1);
                Check.keepRow(x, 9, 2, 0, 24, 2, 24, 24, 1, 2, 0, 1, 3, 1, 0, 16, 2, 0, 70, 1, 30);
                Check.due("boot", x.boot(), 2);
                x.make(2, 0, 0, 0);
                for (int k = 0; k < 10; k++) {
                    x.input(k % 2, random.nextInt(4));
                    x.inputTerm(k % 2, 1);
                    x.run(100 + random.nextInt(50));
                }
                Check.due("CAUSE in " + i, x.state(0, 2) + x.state(1, 2), 0);
                Check.due("HALTED in " + i, x.state(0, 1) + x.state(1, 1), 0);
            }
        }
        Check.due("many were SAFE", ran > 300 ? 1 : 0, 1);
    }

    private static int word(Random random, int place, int length) {
        int kind = random.nextInt(8);
        if (kind == 0) {
            return op(30 + random.nextInt(7), random.nextInt(3), random.nextInt(2), random.nextInt(length) - place);
        }
        if (kind <= 3) {
            int ask = random.nextInt(35);
            return op(38, 0, 0, ask == 1 || ask == 8 ? 5 : ask);
        }
        if (kind == 4) {
            return op(22 + random.nextInt(8), random.nextInt(4), 0, 4 * (18 + random.nextInt(6)));
        }
        return op(1 + random.nextInt(20), 1 + random.nextInt(3), random.nextInt(4), random.nextInt(5) + (random.nextInt(4) << 14));
    }
}
