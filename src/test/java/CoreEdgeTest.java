/** Section 3, THE CORE, sentence by sentence, at its boundaries. */
public final class CoreEdgeTest {
    private static final int LEAST = Integer.MIN_VALUE;
    private static final int MOST = Integer.MAX_VALUE;
    private static final int[] VALUES = {0, 1, -1, 2, 31, 32, 33, LEAST, LEAST + 1, MOST, MOST - 1, 0x55555555};

    public static void main(String[] args) {
        addresses();
        regionEnds();
        wrappingAddresses();
        octetOrder();
        registerZero();
        eachRegister();
        spareBits();
        reckoning();
        shifts();
        reckoningWithM();
        high();
        loads();
        stores();
        branches();
        jumps();
        wrappingPlaces();
        badPlaces();
        badInstructions();
        evenBeforeRegion();
        nothingDone();
        handlers();
        trapsInHandlers();
        backs();
        halted();
        Check.end("CoreEdgeTest");
    }

    /** A partition alone in a REGION of so many words, after so many ticks. */
    private static PartHouse ran(int size, int ticks, String text) {
        PartHouse x = Check.booted(new int[] {1, 8192 - size, size, 1, 0, 1, 0, 1000}, text);
        Check.due("run", x.run(ticks), ticks);
        return x;
    }

    /** CAUSE, or 0 if there was no TRAP, of one instruction that is done with r2. */
    private static int cause(int size, String instruction, int r2) {
        PartHouse x = ran(size, 2, "ldw r2, r0, 12\n" + instruction + "\nroom 1\nword " + r2);
        int cause = x.state(0, 2);
        Check.due("halted by " + instruction, x.state(0, 1), cause == 0 ? 0 : 1);
        Check.due("where of " + instruction, x.state(0, 3), cause == 0 ? 0 : 4);
        Check.due("pc of " + instruction, x.state(0, 0), cause == 0 ? 8 : 4);
        return cause;
    }

    private static void addresses() {
        Check.about("3 the ADDRESS of a word, half is no multiple of 4, 2; 2 an octet of it is not in the REGION");
        for (int size : new int[] {16, 17, 2047, 2048}) {
            int end = 4 * size;
            for (String octet : new String[] {"ldo", "ldou", "sto"}) {
                Check.due(octet + " at 0", cause(size, octet + " r0, r0, 0", 0), 0);
                Check.due(octet + " at the last", cause(size, octet + " r0, r0, " + (end - 1), 0), 0);
                Check.due(octet + " behind it", cause(size, octet + " r0, r0, " + end, 0), 2);
                Check.due(octet + " at -1", cause(size, octet + " r0, r0, -1", 0), 2);
            }
            for (String half : new String[] {"ldh", "ldhu", "sth"}) {
                Check.due(half + " at 0", cause(size, half + " r0, r0, 0", 0), 0);
                Check.due(half + " at the last", cause(size, half + " r0, r0, " + (end - 2), 0), 0);
                Check.due(half + " at the last octet", cause(size, half + " r0, r0, " + (end - 1), 0), 3);
                Check.due(half + " behind it", cause(size, half + " r0, r0, " + end, 0), 2);
                Check.due(half + " at -2", cause(size, half + " r0, r0, -2", 0), 2);
                Check.due(half + " at -1", cause(size, half + " r0, r0, -1", 0), 3);
            }
            for (String word : new String[] {"ldw", "stw"}) {
                Check.due(word + " at 0", cause(size, word + " r0, r0, 0", 0), 0);
                Check.due(word + " at the last", cause(size, word + " r0, r0, " + (end - 4), 0), 0);
                for (int i = 1; i <= 3; i++) {
                    Check.due(word + " within the last", cause(size, word + " r0, r0, " + (end - i), 0), 3);
                }
                Check.due(word + " behind it", cause(size, word + " r0, r0, " + end, 0), 2);
                Check.due(word + " at -4", cause(size, word + " r0, r0, -4", 0), 2);
            }
        }
    }

    private static void regionEnds() {
        Check.about("an ADDRESS a is octet a of it (0 .. 4 SIZE - 1)");
        for (int size : new int[] {16, 2048}) {
            int last = 4 * size - 1;
            PartHouse x = ran(size, 4, "addi r1, r0, 200\nsto r1, r0, " + last + "\nldou r2, r0, " + last + "\nldo r3, r0, 0");
            Check.due("the last octet", x.register(0, 2), 200);
            Check.due("is the highest of the last word", x.memory(0, size - 1), 200 << 24);
            Check.due("octet 0", x.register(0, 3), (byte) (12 << 26 | 1 << 22 | 200));
        }
        // Two REGIONS that lie side by side: neither reaches the other one.
        PartHouse x = Check.booted(new int[] {2, 16, 16, 0, 0, 16, 0, 0, 2, 0, 9, 1, 9}, "ldw r1, r0, -4\nback", "ldw r1, r0, 64\nback");
        x.run(18);
        Check.due("the one before", x.state(0, 2) * 10 + x.state(0, 3), 20);
        Check.due("the one behind", x.state(1, 2) * 10 + x.state(1, 3), 20);
    }

    private static void wrappingAddresses() {
        Check.about("All is reckoned in 32 bits that wrap");
        Check.due("-4 and 4", cause(16, "ldw r0, r2, 4", -4), 0);
        Check.due("-1 and 1", cause(16, "ldo r0, r2, 1", -1), 0);
        Check.due("-131072 and 131071", cause(16, "ldo r0, r2, 131071", -131072), 2);
        Check.due("131072 and -131072", cause(16, "stw r0, r2, -131072", 131072), 0);
        Check.due("the most and 1", cause(16, "ldo r0, r2, 1", MOST), 2);
        Check.due("the least and -1", cause(16, "ldo r0, r2, -1", LEAST), 2);
        Check.due("the least and -4", cause(16, "ldw r0, r2, -4", LEAST), 2);
        Check.due("the most", cause(2048, "ldo r0, r2, 0", MOST), 2);
        Check.due("the least", cause(2048, "ldw r0, r2, 0", LEAST), 2);
        Check.due("of a far one the word is no multiple", cause(2048, "ldw r0, r2, 0", MOST), 3);
    }

    private static void octetOrder() {
        Check.about("of a word's octets the lowest first");
        PartHouse x = ran(16, 5, "ldou r1, r0, 40\nldou r2, r0, 41\nldou r3, r0, 42\nldou r4, r0, 43\nldhu r5, r0, 42\nroom 5\nword 0x04030201");
        for (int r = 1; r <= 4; r++) {
            Check.due("octet " + r, x.register(0, r), r);
        }
        Check.due("the higher half", x.register(0, 5), 0x0403);
    }

    private static void registerZero() {
        Check.about("0 is always 0");
        String[] writers = {"add r0, r2, r2", "addi r0, r2, 7", "high r0, 7", "ldw r0, r0, 12", "ldou r0, r0, 12", "jump r0, 1", "jumpr r0, r0, 8"};
        for (String writer : writers) {
            PartHouse x = ran(16, 3, "ldw r2, r0, 12\n" + writer + "\nadd r3, r0, r0\nword 5");
            Check.due("r0 behind " + writer, x.register(0, 0), 0);
            Check.due("r3 behind " + writer, x.register(0, 3), 0);
            Check.due("pc", x.state(0, 0), 12);
        }
        PartHouse x = ran(16, 2, "addi r15, r0, 9\nadd r14, r15, r15");
        Check.due("r15", x.register(0, 15), 9);
        Check.due("r14", x.register(0, 14), 18);
    }

    /** Each register as the one that is written, and as each one that is read; all others are 0. */
    private static void eachRegister() {
        Check.about("d, a, b are w >>> 22 & 15, w >>> 18 & 15, w >>> 14 & 15");
        for (int r = 1; r <= 15; r++) {
            int other = r == 15 ? 1 : r + 1;
            String set = "addi r" + r + ", r0, 40\n";
            PartHouse x = ran(16, 4, set + "add r" + other + ", r0, r" + r + "\nstw r" + other + ", r" + r + ", 4\nldw r" + other + ", r" + r + ", 4");
            Check.due("stored by r" + r, x.memory(0, 11), 40);
            Check.due("loaded by r" + r, x.register(0, other), 40);
            for (int i = 0; i <= 15; i++) {
                Check.due("r" + i, x.register(0, i), i == r || i == other ? 40 : 0);
            }
            Check.due("bne of r" + r + " as d", ran(16, 2, set + "bne r" + r + ", r0, 5").state(0, 0), 24);
            Check.due("bne of r" + r + " as a", ran(16, 2, set + "bne r0, r" + r + ", 5").state(0, 0), 24);
            Check.due("sub of r" + r + " as a", ran(16, 2, set + "sub r" + other + ", r" + r + ", r0").register(0, other), 40);
            Check.due("sub of r" + r + " as b", ran(16, 2, set + "sub r" + other + ", r0, r" + r).register(0, other), -40);
            Check.due("addi of r" + r, ran(16, 2, set + "addi r" + other + ", r" + r + ", 1").register(0, other), 41);
            Check.due("jumpr of r" + r, ran(16, 2, set + "jumpr r" + other + ", r" + r + ", 8").state(0, 0), 48);
            Check.due("jump to r" + r, ran(16, 1, "jump r" + r + ", 2").register(0, r), 4);
            Check.due("high to r" + r, ran(16, 1, "high r" + r + ", 2").register(0, r), 32768);
        }
    }

    /** Bits of a word that its op has no use for do not count when it runs. */
    private static void spareBits() {
        Check.about("M is the lowest 18 bits with their sign");
        PartHouse x = Check.booted(Check.alone(0), "addi r1, r0, 5\naddi r2, r0, 6\nword " + (1 << 26 | 3 << 22 | 1 << 18 | 2 << 14 | 0x3FFF)
            + "\nword " + (21 << 26 | 4 << 22 | 15 << 18 | 1) + "\nword " + (38 << 26 | 15 << 22 | 15 << 18 | 4)
            + "\nword " + (36 << 26 | 5 << 22 | 15 << 18 | 2));
        x.run(6);
        Check.due("add", x.register(0, 3), 11);
        Check.due("high", x.register(0, 4), 16384);
        Check.due("ask 4", x.register(0, 1), 4);
        Check.due("jump", x.state(0, 0) * 100 + x.register(0, 5), 2824);
        x = ran(16, 1, "addi r1, r0, -131072");
        Check.due("the least M", x.register(0, 1), -131072);
        x = ran(16, 1, "addi r1, r0, 131071");
        Check.due("the greatest M", x.register(0, 1), 131071);
    }

    private static int reckoned(String name, int x, int y) {
        switch (name) {
            case "add": return (int) ((long) x + y);
            case "sub": return (int) ((long) x - y);
            case "and": return x & y;
            case "or": return x | y;
            case "xor": return x ^ y;
            case "shl": return (int) ((long) x << (y & 31));
            case "shr": return (int) ((x & 0xFFFFFFFFL) >> (y & 31));
            case "sar": return (int) ((long) x >> (y & 31));
            case "less": return x < y ? 1 : 0;
            case "below": return Integer.compareUnsigned(x, y) < 0 ? 1 : 0;
            default: return (int) ((long) x * y);
        }
    }

    /** Shifts by 32 and more, and below 0, are shifts by the lowest 5 bits; each with 31, the last that shifts all but one out. */
    private static void shifts() {
        Check.about("shifts by the lowest 5 bits of Rb (shr: 0s come in; sar: the sign)");
        int[][] by = {{0, 0}, {1, 1}, {31, 31}, {32, 0}, {33, 1}, {63, 31}, {64, 0}, {-1, 31}, {-32, 0}, {-31, 1}};
        for (int[] b : by) {
            PartHouse x = ran(16, 8, "ldw r1, r0, 60\naddi r2, r0, " + b[0] + "\nshl r3, r1, r2\nshr r4, r1, r2\nsar r5, r1, r2\nshli r6, r1, " + b[0]
                + "\nshri r7, r1, " + b[0] + "\nsari r8, r1, " + b[0] + "\nroom 7\nword 0x80000001");
            int[] want = {b[1] == 0 ? LEAST + 1 : b[1] == 1 ? 2 : LEAST, b[1] == 0 ? LEAST + 1 : b[1] == 1 ? 1 << 30 : 1,
                b[1] == 0 ? LEAST + 1 : b[1] == 1 ? 0xC0000000 : -1};
            for (int i = 0; i < 3; i++) {
                Check.due("shift " + i + " by " + b[0], x.register(0, 3 + i), want[i]);
                Check.due("shift with M " + i + " by " + b[0], x.register(0, 6 + i), want[i]);
            }
        }
        Check.about("less: 1 if Ra < Rb as numbers with a sign, else 0; below: without a sign; mul: the lowest 32 bits");
        int[][] cases = {{LEAST, MOST, 1, 0}, {MOST, LEAST, 0, 1}, {-1, 0, 1, 0}, {0, -1, 0, 1}, {5, 5, 0, 0}, {4, 5, 1, 1}, {5, 4, 0, 0}, {LEAST, LEAST, 0, 0}};
        for (int[] c : cases) {
            PartHouse x = ran(16, 5, "ldw r1, r0, 56\nldw r2, r0, 60\nless r3, r1, r2\nbelow r4, r1, r2\nmul r5, r1, r2\nroom 9\nword " + c[0] + "\nword " + c[1]);
            Check.due("less " + c[0] + ", " + c[1], x.register(0, 3), c[2]);
            Check.due("below " + c[0] + ", " + c[1], x.register(0, 4), c[3]);
            Check.due("mul " + c[0] + ", " + c[1], x.register(0, 5), c[0] * c[1]);
        }
    }

    private static void reckoning() {
        Check.about("1 to 11 (add sub and or xor shl shr sar less below mul): Rd becomes Ra op Rb");
        String[] names = {"add", "sub", "and", "or", "xor", "shl", "shr", "sar", "less", "below", "mul"};
        for (int x : VALUES) {
            for (int y : VALUES) {
                StringBuilder text = new StringBuilder("ldw r1, r0, 60\nldw r2, r0, 64\n");
                for (int i = 0; i < names.length; i++) {
                    text.append(names[i] + " r" + (3 + i) + ", r1, r2\n");
                }
                PartHouse h = ran(64, 13, text + "room 2\nword " + x + "\nword " + y);
                for (int i = 0; i < names.length; i++) {
                    Check.due(names[i] + " of " + x + ", " + y, h.register(0, 3 + i), reckoned(names[i], x, y));
                }
            }
        }
        // A register that is read may be the one that is written.
        PartHouse h = ran(16, 3, "addi r1, r0, 3\nmul r1, r1, r1\nsub r1, r1, r1");
        Check.due("r1", h.register(0, 1), 0);
    }

    private static void reckoningWithM() {
        Check.about("12 to 20 (addi andi ori xori shli shri sari lessi belowi): the same with M in place of Rb");
        String[] names = {"add", "and", "or", "xor", "shl", "shr", "sar", "less", "below"};
        int[] ms = {0, 1, -1, 31, 32, 33, 63, -32, 131071, -131072};
        for (int x : VALUES) {
            for (int m : ms) {
                StringBuilder text = new StringBuilder("ldw r1, r0, 60\n");
                for (int i = 0; i < names.length; i++) {
                    text.append(names[i] + "i r" + (3 + i) + ", r1, " + m + "\n");
                }
                PartHouse h = ran(64, 10, text + "room 5\nword " + x);
                for (int i = 0; i < names.length; i++) {
                    Check.due(names[i] + "i of " + x + ", " + m, h.register(0, 3 + i), reckoned(names[i], x, m));
                }
            }
        }
    }

    private static void high() {
        Check.about("21 (high): Rd becomes the lowest 18 bits, times 16384");
        int[] bits = {0, 1, 2, 131071, 131072, 262142, 262143};
        for (int n : bits) {
            Check.due("high " + n, ran(16, 1, "high r1, " + n).register(0, 1), (int) (n * 16384L));
        }
    }

    private static void loads() {
        Check.about("Rd becomes the word, half (with sign, without), octet (with, without) at ADDRESS Ra + M");
        int[] words = {0, -1, 0x7F7F7F7F, 0x80808080, 0x00FF00FF, 0x80017FFE};
        for (int w : words) {
            String text = "ldw r1, r0, 56\nldh r2, r0, 56\nldh r3, r0, 58\nldhu r4, r0, 56\nldhu r5, r0, 58\nldo r6, r0, 56\nldo r7, r0, 57\n"
                + "ldo r8, r0, 58\nldo r9, r0, 59\nldou r10, r0, 56\nldou r11, r0, 57\nldou r12, r0, 58\nldou r13, r0, 59\nback\nword " + w;
            PartHouse x = ran(16, 13, text);
            Check.due("word", x.register(0, 1), w);
            for (int i = 0; i < 2; i++) {
                Check.due("half " + i + " of " + w, x.register(0, 2 + i), (short) (w >> 16 * i));
                Check.due("half without sign " + i + " of " + w, x.register(0, 4 + i), w >>> 16 * i & 0xFFFF);
            }
            for (int i = 0; i < 4; i++) {
                Check.due("octet " + i + " of " + w, x.register(0, 6 + i), (byte) (w >> 8 * i));
                Check.due("octet without sign " + i + " of " + w, x.register(0, 10 + i), w >>> 8 * i & 0xFF);
            }
        }
    }

    private static void stores() {
        Check.about("27 to 29 (stw sth sto): the word, half, octet there becomes the lowest bits of Rd");
        String[] names = {"stw", "sth", "sto"};
        int[] widths = {4, 2, 1};
        int[] old = {0, -1, 0x12345678};
        for (int before : old) {
            for (int k = 0; k < 3; k++) {
                for (int at = 0; at < 4; at += widths[k]) {
                    String text = "ldw r1, r0, 20\n" + names[k] + " r1, r0, " + (28 + at) + "\nroom 3\nword 0xa1b2c3d4\nword -1\nword "
                        + before + "\nword -1";
                    PartHouse x = ran(16, 2, text);
                    long bits = widths[k] == 4 ? 0xFFFFFFFFL : (1L << 8 * widths[k]) - 1;
                    long want = before & ~(bits << 8 * at) | (0xa1b2c3d4L & bits) << 8 * at;
                    Check.due(names[k] + " at " + at, x.memory(0, 7), (int) want);
                    Check.due("the words beside", x.memory(0, 6) + x.memory(0, 8), -2);
                }
            }
        }
        PartHouse x = ran(2048, 3, "addi r1, r0, 5\nstw r1, r0, 8188\nldo r2, r0, 8188");
        Check.due("the last word of the greatest REGION", x.memory(0, 2047) * 10 + x.register(0, 2), 55);
        Check.due("word 2048", x.memory(0, 2048), 0);
        x = ran(16, 3, "addi r1, r0, 5\nstw r1, r0, 8\nback");
        Check.due("an instruction that is stored is done", x.state(0, 2) * 100 + x.state(0, 3), 108);
    }

    private static void branches() {
        Check.about("if Rd is like, unlike, less than, not less than Ra (with a sign; u: without): PC becomes PC + 4 M");
        String[] names = {"beq", "bne", "blt", "bge", "bltu", "bgeu"};
        int[][] pairs = {{0, 0}, {-1, -1}, {0, 1}, {1, 0}, {-1, 0}, {0, -1}, {LEAST, MOST}, {MOST, LEAST}, {LEAST, LEAST}, {MOST, -1}, {LEAST, 0}};
        for (int[] pair : pairs) {
            int x = pair[0];
            int y = pair[1];
            boolean below = Integer.compareUnsigned(x, y) < 0;
            boolean[] goes = {x == y, x != y, x < y, x >= y, below, !below};
            for (int i = 0; i < names.length; i++) {
                PartHouse h = ran(16, 3, "ldw r1, r0, 20\nldw r2, r0, 24\n" + names[i] + " r1, r2, 9\nroom 2\nword " + x + "\nword " + y);
                Check.due(names[i] + " of " + x + ", " + y, h.state(0, 0), goes[i] ? 44 : 12);
            }
        }
        PartHouse h = ran(16, 7, "beq r0, r0, 0");
        Check.due("to itself", h.state(0, 0) + h.state(0, 1), 0);
        h = ran(16, 1, "beq r0, r0, -131072");
        Check.due("as far back as can be", h.state(0, 0), -524288);
        h = ran(16, 1, "beq r0, r0, 131071");
        Check.due("as far on as can be", h.state(0, 0), 524284);
        Check.about("Otherwise PC grows by 4");
        h = ran(16, 1, "bne r0, r0, -131072");
        Check.due("a branch that does not go", h.state(0, 0), 4);
        h = ran(16, 3, "add r1, r0, r0\nldw r1, r0, 0\nstw r1, r0, 40");
        Check.due("others", h.state(0, 0), 12);
    }

    private static void jumps() {
        Check.about("36 (jump): Rd becomes PC + 4, PC becomes PC + 4 M. 37 (jumpr): PC becomes Ra + M, Rd the PC before and 4 (Ra as it was)");
        PartHouse x = ran(16, 2, "jump r1, 3\nback\nback\njump r2, -3");
        Check.due("there and back", x.state(0, 0), 0);
        Check.due("r1, r2", x.register(0, 1) * 100 + x.register(0, 2), 416);
        x = ran(16, 2, "addi r1, r0, 48\njumpr r1, r1, -8");
        Check.due("by the register that is written", x.state(0, 0) * 100 + x.register(0, 1), 4008);
        x = ran(16, 1, "jump r1, 131071");
        Check.due("far on", x.state(0, 0) * 10L + x.register(0, 1), 5242844);
        x = ran(16, 1, "jump r1, -131072");
        Check.due("far back", x.state(0, 0), -524288);
        x = ran(16, 1, "jumpr r1, r0, -131072");
        Check.due("jumpr far back", x.state(0, 0), -131072);
        x = ran(16, 5, "jump r1, 0");
        Check.due("to itself", x.state(0, 0) * 10 + x.register(0, 1), 4);
    }

    private static void wrappingPlaces() {
        Check.about("All is reckoned in 32 bits that wrap");
        PartHouse x = ran(16, 2, "ldw r2, r0, 12\njumpr r1, r2, 4\nback\nword -4");
        Check.due("PC 0 by -4 and 4", x.state(0, 0), 0);
        x = ran(16, 3, "ldw r2, r0, 12\njumpr r1, r2, 4\nback\nword " + (MOST - 3));
        Check.due("PC beyond the most", x.state(0, 0), LEAST);
        Check.due("CAUSE and WHERE", x.state(0, 2) == 4 && x.state(0, 3) == LEAST ? 1 : 0, 1);
        x = ran(16, 3, "ldw r2, r0, 12\njumpr r1, r2, -4\nback\nword " + LEAST);
        Check.due("PC below the least", x.state(0, 0), MOST - 3);
        Check.due("CAUSE", x.state(0, 2), 4);
    }

    private static void badPlaces() {
        Check.about("4 PC is not 0 .. 4 SIZE - 1, or no multiple of 4 (when the word there is wanted)");
        for (int size : new int[] {16, 2048}) {
            PartHouse x = ran(size, 2, "jumpr r0, r0, " + (4 * size - 4));
            Check.due("the last word is wanted: it is 0", x.state(0, 2) * 100000 + x.state(0, 3), 100000 + 4 * size - 4);
            x = ran(size, 1, "jumpr r0, r0, " + 4 * size);
            Check.due("not wanted yet", x.state(0, 2) + x.state(0, 1), 0);
            Check.due("PC", x.state(0, 0), 4 * size);
            x.run(1);
            Check.due("then wanted", x.state(0, 2) * 100000 + x.state(0, 3), 400000 + 4 * size);
            Check.due("PC stays", x.state(0, 0), 4 * size);
            Check.due("halted", x.state(0, 1), 1);
        }
        int[] bad = {-4, -1, 1, 2, 3, 5, 62, 63, 65, 64, -131072, 131068};
        for (int place : bad) {
            PartHouse x = ran(16, 2, "jumpr r0, r0, " + place);
            Check.due("CAUSE at " + place, x.state(0, 2), 4);
            Check.due("WHERE at " + place, x.state(0, 3), place);
        }
        // The last word runs, and PC falls off the REGION behind it.
        StringBuilder all = new StringBuilder();
        for (int i = 0; i < 16; i++) {
            all.append("addi r1, r1, 1\n");
        }
        PartHouse x = ran(16, 16, all.toString());
        Check.due("all words ran", x.register(0, 1) * 100 + x.state(0, 0), 1664);
        Check.due("no TRAP yet", x.state(0, 2), 0);
        x.run(1);
        Check.due("TRAP 4", x.state(0, 2) * 100 + x.state(0, 3), 464);
    }

    private static void badInstructions() {
        Check.about("1 op is none of these, back outside a HANDLER, ask with another number");
        for (int op = 0; op < 64; op++) {
            PartHouse x = Check.booted(Check.alone(1), "word " + (op << 26));
            x.run(1);
            Check.due("op " + op, x.state(0, 2), op == 0 || op >= 39 ? 1 : 0);
        }
        int[] asks = {0, 1, 34, 35, 36, 131071, -1, -131072};
        for (int ask : asks) {
            PartHouse x = Check.booted(Check.alone(1), "word " + (38 << 26 | ask & 0x3FFFF));
            x.run(1);
            Check.due("ask " + ask, x.state(0, 2) * 10 + x.state(0, 1), ask >= 0 && ask <= 34 ? 0 : 11);
        }
        for (int ask = 0; ask <= 34; ask++) {
            PartHouse x = Check.booted(Check.alone(1), "ask " + ask);
            x.run(1);
            Check.due("PC behind ask " + ask, x.state(0, 0) * 10 + x.state(0, 2), 40);
        }
    }

    private static void evenBeforeRegion() {
        Check.about("3 before 2");
        Check.due("ldw", cause(16, "ldw r1, r0, 65", 0), 3);
        Check.due("ldw", cause(16, "ldw r1, r0, 66", 0), 3);
        Check.due("ldw", cause(16, "ldw r1, r0, -2", 0), 3);
        Check.due("stw", cause(16, "stw r1, r0, -131071", 0), 3);
        Check.due("ldh", cause(16, "ldh r1, r0, 65", 0), 3);
        Check.due("sth", cause(16, "sth r1, r0, 131071", 0), 3);
        Check.due("ldo", cause(16, "ldo r1, r0, 65", 0), 2);
        Check.due("sto", cause(16, "sto r1, r0, -3", 0), 2);
        Check.due("sth at 2 of a word", cause(16, "sth r1, r0, 62", 0), 0);
    }

    private static void nothingDone() {
        Check.about("Nothing of the instruction is done; CAUSE and WHERE become the kind and PC");
        String[] failing = {"ldw r2, r0, 64", "ldw r2, r0, 1", "ldhu r2, r0, -1", "ldo r2, r0, 64", "stw r2, r0, 64", "sth r2, r0, 61", "back", "ask 35", "word 0"};
        int[] causes = {2, 3, 3, 2, 2, 3, 1, 1, 1};
        for (int i = 0; i < failing.length; i++) {
            PartHouse x = ran(16, 2, "addi r2, r0, 9\n" + failing[i]);
            for (int r = 0; r < 16; r++) {
                Check.due("r" + r + " behind " + failing[i], x.register(0, r), r == 2 ? 9 : 0);
            }
            for (int w = 2; w < 16; w++) {
                Check.due("word " + w + " behind " + failing[i], x.memory(0, w), 0);
            }
            Check.due("CAUSE and WHERE of " + failing[i], x.state(0, 2) * 10 + x.state(0, 3), causes[i] * 10 + 4);
            Check.due("the tick is over", x.told(2), 2);
        }
    }

    private static void handlers() {
        Check.about("If the HANDLER's place is 0, or the partition is in its HANDLER, it is HALTED; else PC becomes the HANDLER's place, and it is in its HANDLER");
        PartHouse x = ran(16, 3, "addi r1, r0, 60\nask 1\nword 0");
        Check.due("in the last word", x.state(0, 0) * 10 + x.state(0, 4), 601);
        Check.due("not halted", x.state(0, 1), 0);
        Check.due("CAUSE, WHERE", x.state(0, 2) * 10 + x.state(0, 3), 18);
        Check.due("the HANDLER's place", x.state(0, 5), 60);
        x = ran(16, 3, "addi r1, r0, 4\nask 1\nword 0");
        Check.due("in word 1", x.state(0, 0) * 10 + x.state(0, 4), 41);
        x = ran(16, 2, "ask 1\nword 0");
        Check.due("HANDLER 0 is none", x.state(0, 1) * 10 + x.state(0, 4), 10);
        // A place that was told goes by 0 again.
        x = ran(16, 5, "addi r1, r0, 12\nask 1\nadd r1, r0, r0\nask 1\nword 0");
        Check.due("a HANDLER that was taken back", x.state(0, 1) * 10 + x.state(0, 4), 10);
        Check.due("its place", x.state(0, 5), 0);
    }

    private static void trapsInHandlers() {
        Check.about("or the partition is in its HANDLER, it is HALTED");
        // TRAPS of all kinds in a HANDLER that stands at 16.
        String[] failing = {"word 0", "ldw r0, r0, 64", "ldw r0, r0, 2", "jumpr r0, r0, 64"};
        int[] causes = {1, 2, 3, 4};
        for (int i = 0; i < failing.length; i++) {
            PartHouse x = ran(16, 9, "addi r1, r0, 16\nask 1\nword 0\nback\n" + failing[i]);
            Check.due("halted by " + failing[i], x.state(0, 1), 1);
            Check.due("in its HANDLER yet", x.state(0, 4), 1);
            Check.due("CAUSE", x.state(0, 2), causes[i]);
            Check.due("WHERE", x.state(0, 3), causes[i] == 4 ? 64 : 16);
            Check.due("PC", x.state(0, 0), causes[i] == 4 ? 64 : 16);
        }
        // Behind back it is in it no more: the next TRAP goes there again.
        PartHouse x = ran(16, 6, "addi r1, r0, 16\nask 1\nword 0\nword 0\nback");
        Check.due("back from the second", x.state(0, 0) * 10 + x.state(0, 4), 160);
        Check.due("its CAUSE and WHERE", x.state(0, 2) * 100 + x.state(0, 3), 112);
        x.run(1);
        Check.due("back outside is a TRAP", x.state(0, 0) * 10 + x.state(0, 4), 161);
        Check.due("its CAUSE and WHERE", x.state(0, 2) * 100 + x.state(0, 3), 116);
        x.run(1);
        Check.due("back inside goes behind it", x.state(0, 0) * 10 + x.state(0, 4), 200);
        Check.due("not halted", x.state(0, 1), 0);
    }

    private static void backs() {
        Check.about("39 (back): PC becomes the place of the latest TRAP and 4, and the partition is in its HANDLER no more");
        PartHouse x = ran(16, 4, "addi r1, r0, 12\nask 1\nword 0\nback");
        Check.due("behind the TRAP", x.state(0, 0) * 10 + x.state(0, 4), 120);
        Check.due("CAUSE and WHERE stay", x.state(0, 2) * 10 + x.state(0, 3), 18);
        x = ran(16, 5, "addi r1, r0, 16\nask 1\njumpr r0, r0, -4\nback\nback");
        Check.due("of a PC of -4", x.state(0, 0) * 10 + x.state(0, 4), 0);
        x = ran(16, 5, "addi r1, r0, 16\nask 1\njumpr r0, r0, 2\nback\nback");
        Check.due("of a PC of 2", x.state(0, 0), 6);
        x = ran(16, 5, "addi r1, r0, 16\nask 1\njumpr r0, r0, 64\nback\nback");
        Check.due("of a PC behind all", x.state(0, 0), 68);
        x.run(1);
        Check.due("is a TRAP again", x.state(0, 3) * 10 + x.state(0, 4), 681);
    }

    private static void halted() {
        Check.about("it is HALTED");
        PartHouse x = ran(16, 1, "word 0\naddi r1, r0, 5");
        String before = Snapshot.of(x);
        Check.due("run", x.run(500), 500);
        Check.due("only ticks go on", Snapshot.of(x).replace("told 2 = 501", "told 2 = 1").equals(before) ? 1 : 0, 1);
    }
}
