import java.util.Random;

/** Section 3 (promises 15, 19, 20, 21): instructions, TRAPS and HANDLERS. */
public final class CoreTest {
    public static void main(String[] args) {
        instructions();
        memory();
        jumps();
        traps();
        handlers();
        againstTheWords();
        Check.end("CoreTest");
    }

    /** Runs a text with r2 = x and r3 = y as words of the image, and looks at r1. */
    private static void gives(String statement, int x, int y, int want) {
        PartHouse h = Check.ran(3, "ldw r2, r0, 20\nldw r3, r0, 24\n" + statement + "\nroom 2\nword " + x + "\nword " + y);
        Check.due(statement + " of " + x + ", " + y, h.register(0, 1), want);
        Check.due("pc", h.state(0, 0), 12);
    }

    private static void instructions() {
        int least = Integer.MIN_VALUE;
        gives("add r1, r2, r3", Integer.MAX_VALUE, 1, least);
        gives("sub r1, r2, r3", 5, 7, -2);
        gives("and r1, r2, r3", 12, 10, 8);
        gives("or r1, r2, r3", 12, 10, 14);
        gives("xor r1, r2, r3", 12, 10, 6);
        gives("shl r1, r2, r3", 3, 33, 6);
        gives("shr r1, r2, r3", -1, 60, 15);
        gives("sar r1, r2, r3", least, -1, -1);
        gives("less r1, r2, r3", -1, 0, 1);
        gives("less r1, r2, r3", 0, 0, 0);
        gives("below r1, r2, r3", -1, 0, 0);
        gives("below r1, r2, r3", 0, least, 1);
        gives("mul r1, r2, r3", 0x10001, 0x10001, 0x20001);
        gives("addi r1, r2, -131072", 2, 0, 2 - 131072);
        gives("andi r1, r2, -2", -1, 0, -2);
        gives("ori r1, r2, -2", 1, 0, -1);
        gives("xori r1, r2, -1", 5, 0, -6);
        gives("shli r1, r2, 33", 5, 0, 10);
        gives("shri r1, r2, -1", least, 0, 1);
        gives("sari r1, r2, 31", least, 0, -1);
        gives("lessi r1, r2, -1", -2, 0, 1);
        gives("lessi r1, r2, -1", 0, 0, 0);
        gives("belowi r1, r2, -1", 5, 0, 1);
        gives("belowi r1, r2, -1", -1, 0, 0);
        gives("high r1, 262143", 0, 0, -16384);
        gives("high r1, 1", 0, 0, 16384);
        PartHouse x = Check.ran(2, "addi r0, r0, 5\nadd r1, r0, r0");
        Check.due("register 0 stays", x.register(0, 0), 0);
        Check.due("register 0 is 0", x.register(0, 1), 0);
        Check.due("register 16", x.register(0, 16), 0);
        Check.due("register -1", x.register(0, -1), 0);
        Check.due("a register of none", x.register(1, 1), 0);
        Check.due("a register of none", x.register(-1, 1), 0);
    }

    private static void memory() {
        String data = "\nroom 1\nword 0x80ff7f01";
        String[] loads = {"ldw r1, r0, 8", "ldh r1, r0, 8", "ldh r1, r0, 10", "ldhu r1, r0, 10", "ldo r1, r0, 9",
            "ldo r1, r0, 10", "ldou r1, r0, 10", "ldou r1, r0, 11", "ldo r1, r0, 11"};
        int[] wants = {0x80ff7f01, 0x7f01, 0xffff80ff, 0x80ff, 0x7f, -1, 255, 128, -128};
        for (int i = 0; i < loads.length; i++) {
            Check.due(loads[i], Check.ran(1, loads[i] + data).register(0, 1), wants[i]);
        }
        String put = "ldw r2, r0, 16\naddi r3, r0, 20\n";
        String rest = "\nroom 1\nword 0x80ff7f01\nword 0x11223344";
        String[] stores = {"stw r2, r3, 0", "sth r2, r3, 0", "sth r2, r3, 2", "sto r2, r3, 0", "sto r2, r3, 1",
            "sto r2, r3, 2", "sto r2, r3, 3", "stw r0, r3, 0"};
        int[] after = {0x80ff7f01, 0x11227f01, 0x7f013344, 0x11223301, 0x11220144, 0x11013344, 0x01223344, 0};
        for (int i = 0; i < stores.length; i++) {
            PartHouse x = Check.ran(3, put + stores[i] + rest);
            Check.due(stores[i], x.memory(0, 5), after[i]);
            Check.due(stores[i] + " leaves the word before", x.memory(0, 4), 0x80ff7f01);
            Check.due("and the word behind", x.memory(0, 6), 0);
        }
        PartHouse x = Check.ran(2, "addi r1, r0, 7\nstw r1, r0, 252");
        Check.due("the last word", x.memory(0, 63), 7);
        Check.due("word 64", x.memory(0, 64), 0);
        Check.due("word -1", x.memory(0, -1), 0);
        Check.due("word 2048", x.memory(0, 2048), 0);
        Check.due("of no partition", x.memory(1, 0), 0);
        Check.due("the image", x.memory(0, 0), 12 << 26 | 1 << 22 | 7);
    }

    private static void goes(String branch, int x, int y, boolean want) {
        String text = "ldw r2, r0, 20\nldw r3, r0, 24\n" + branch + " r2, r3, 7\nroom 2\nword " + x + "\nword " + y;
        Check.due(branch + " " + x + " " + y, Check.ran(3, text).state(0, 0), want ? 36 : 12);
    }

    private static void jumps() {
        int[][] cases = {{0, 0}, {1, 2}, {2, 1}, {-1, 1}, {1, -1}, {Integer.MIN_VALUE, Integer.MAX_VALUE}};
        for (int[] c : cases) {
            goes("beq", c[0], c[1], c[0] == c[1]);
            goes("bne", c[0], c[1], c[0] != c[1]);
            goes("blt", c[0], c[1], c[0] < c[1]);
            goes("bge", c[0], c[1], c[0] >= c[1]);
            goes("bltu", c[0], c[1], Integer.compareUnsigned(c[0], c[1]) < 0);
            goes("bgeu", c[0], c[1], Integer.compareUnsigned(c[0], c[1]) >= 0);
        }
        PartHouse x = Check.ran(2, "jump r5, 3\nroom 2\njump r6, -2");
        Check.due("jump there and back", x.state(0, 0), 4);
        Check.due("r5", x.register(0, 5), 4);
        Check.due("r6", x.register(0, 6), 16);
        x = Check.ran(2, "addi r5, r0, 40\njumpr r5, r5, -4");
        Check.due("jumpr by the register as it was", x.state(0, 0), 36);
        Check.due("r5", x.register(0, 5), 8);
        x = Check.ran(1, "beq r0, r0, -131072");
        Check.due("a far branch", x.state(0, 0), -524288);
        Check.due("is no trap yet", x.state(0, 2), 0);
        Check.due("but in the next tick", x.run(1) * 10 + x.state(0, 2), 14);
    }

    private static void traps(String text, int ticks, int kind, int where) {
        PartHouse x = Check.ran(ticks, text);
        Check.due("cause of <" + text + ">", x.state(0, 2), kind);
        Check.due("where of <" + text + ">", x.state(0, 3), where);
        Check.due("pc of <" + text + ">", x.state(0, 0), where);
        Check.due("halted of <" + text + ">", x.state(0, 1), 1);
        Check.due("no handler of <" + text + ">", x.state(0, 4) + x.state(0, 5), 0);
        Check.due("r1 of <" + text + ">", x.register(0, 1), 0);
    }

    private static void traps() {
        traps("word 0", 1, 1, 0);
        traps("word " + (40 << 26), 1, 1, 0);
        traps("word " + (63 << 26), 1, 1, 0);
        traps("back", 5, 1, 0);
        traps("ask 35", 1, 1, 0);
        traps("ask 131071", 1, 1, 0);
        traps("word 0x9803ffff", 1, 1, 0);
        traps("ldw r1, r0, 1", 1, 3, 0);
        traps("ldw r1, r0, 2", 1, 3, 0);
        traps("ldh r1, r0, 3", 1, 3, 0);
        traps("ldhu r1, r0, -1", 1, 3, 0);
        traps("ldw r1, r0, 258", 1, 3, 0);
        traps("ldw r1, r0, 256", 1, 2, 0);
        traps("ldw r1, r0, -4", 1, 2, 0);
        traps("ldh r1, r0, 256", 1, 2, 0);
        traps("ldo r1, r0, 256", 1, 2, 0);
        traps("ldou r1, r0, -1", 1, 2, 0);
        traps("stw r1, r0, 256", 1, 2, 0);
        traps("stw r1, r0, 254", 1, 3, 0);
        traps("sth r1, r0, 255", 1, 3, 0);
        traps("sto r1, r0, 256", 1, 2, 0);
        traps("high r2, 131072\nldo r1, r2, -1", 2, 2, 4);
        traps("jump r0, 64", 2, 4, 256);
        traps("jump r0, -1", 2, 4, -4);
        traps("jumpr r0, r0, 2", 2, 4, 2);
        traps("jumpr r0, r0, 3", 9, 4, 3);
    }

    private static void handlers() {
        String text = "addi r1, r0, h\nask 1\n".replace("h", "24")
            + "ldw r2, r0, 1\nldw r3, r0, 256\nback\nback\n"
            + "ask 2\nadd r4, r1, r0\nask 3\nadd r5, r1, r0\nback";
        PartHouse x = Check.ran(3, text);
        Check.due("in the handler", x.state(0, 0) * 10 + x.state(0, 4), 241);
        Check.due("its place", x.state(0, 5), 24);
        Check.due("cause and where", x.state(0, 2) * 1000 + x.state(0, 3), 3008);
        x.run(5);
        Check.due("behind it", x.state(0, 0) * 10 + x.state(0, 4), 120);
        Check.due("what it asked", x.register(0, 4) * 1000 + x.register(0, 5), 3008);
        x.run(6);
        Check.due("behind the second", x.state(0, 0) * 10 + x.state(0, 4), 160);
        Check.due("what it asked", x.register(0, 4) * 1000 + x.register(0, 5), 2012);
        x.run(1);
        Check.due("a back outside is a trap", x.state(0, 2) * 1000 + x.state(0, 3), 1016);
        Check.due("it goes on", x.state(0, 1), 0);

        x = Check.ran(9, "addi r1, r0, 12\nask 1\nword 0\nldw r1, r0, 1");
        Check.due("a trap in the handler halts", x.state(0, 1), 1);
        Check.due("cause and where", x.state(0, 2) * 1000 + x.state(0, 3), 3012);
        Check.due("in its handler yet", x.state(0, 4), 1);
        Check.due("pc", x.state(0, 0), 12);

        x = Check.ran(9, "addi r1, r0, 12\nask 1\nask 1\nword 0\nback");
        Check.due("a handler of 0 is none", x.state(0, 1) * 10 + x.state(0, 4), 10);
        Check.due("its place", x.state(0, 5), 0);

        int[] places = {252, 256, 250, -4, 1, 4};
        int[] answers = {0, -2, -2, -2, -2, 0};
        for (int i = 0; i < places.length; i++) {
            x = Check.ran(3, "addi r1, r0, " + places[i] + "\nask 1\nadd r5, r1, r0");
            Check.due("handler at " + places[i], x.register(0, 5), answers[i]);
            Check.due("state 5 at " + places[i], x.state(0, 5), answers[i] == 0 ? places[i] : 0);
        }
    }

    private static void againstTheWords() {
        Random random = new Random(3);
        for (int i = 0; i < 300; i++) {
            int[] image = new int[40];
            for (int k = 0; k < image.length; k++) {
                int op = random.nextInt(30) == 0 ? random.nextInt(64) : 1 + random.nextInt(37);
                op = op == 37 && random.nextInt(3) > 0 ? 36 : op;
                int m = random.nextInt(3) == 0 ? random.nextInt() : random.nextInt(70) - 10;
                m = op >= 30 && op <= 36 ? random.nextInt(12) - 4 : m;
                image[k] = op << 26 | random.nextInt(16) << 22 | random.nextInt(3) << 18 | m & 0x3FFFF;
            }
            PartHouse x = new PartHouse();
            Check.keepRow(x, Check.LOADER, 1);
            Check.keepRow(x, Check.CONFIG, 1, 5, 44, 0, 0, 1, 0, 1000);
            Check.keepRow(x, 0, image);
            x.boot();
            Model model = new Model(image, 44);
            for (int n = 0; n < 6; n++) {
                x.run(n * n);
                for (int t = 0; t < n * n; t++) {
                    model.tick();
                }
                model.compare(x, "program " + i + " step " + n);
            }
        }
    }

    /** The core by octets, as plain as can be; it has no handler and asks nothing. */
    private static final class Model {
        private final byte[] octets;
        private final int[] r = new int[16];
        private int pc;
        private int cause;
        private boolean halted;

        Model(int[] image, int size) {
            octets = new byte[4 * size];
            for (int i = 0; i < 4 * image.length; i++) {
                octets[i] = (byte) (image[i / 4] >> 8 * (i % 4));
            }
        }

        private long read(long address, int wide) {
            long value = 0;
            for (int i = wide - 1; i >= 0; i--) {
                value = value * 256 + (octets[(int) address + i] & 255);
            }
            return value;
        }

        private void trap(int kind) {
            cause = kind;
            halted = true;
        }

        void tick() {
            if (halted) {
                return;
            }
            if (pc < 0 || pc + 4 > octets.length || pc % 4 != 0) {
                trap(4);
                return;
            }
            long w = read(pc, 4);
            int op = (int) (w / (1L << 26));
            int d = (int) (w / (1 << 22) % 16);
            int a = (int) (w / (1 << 18) % 16);
            int b = (int) (w / (1 << 14) % 16);
            int m = (int) (w % (1 << 18));
            int raw = m;
            m = m >= 131072 ? m - 262144 : m;
            int next = pc + 4;
            long x = r[a];
            long ux = Integer.toUnsignedLong(r[a]);
            int y = op <= 11 ? r[b] : m;
            long uy = Integer.toUnsignedLong(y);
            int shift = (int) (uy % 32);
            if (op >= 22 && op <= 29) {
                int wide = "42211421".charAt(op - 22) - '0';
                int address = r[a] + m;
                if (Math.floorMod(address, wide) != 0) {
                    trap(3);
                    return;
                }
                if (address < 0 || address + wide > octets.length || address + wide < 0) {
                    trap(2);
                    return;
                }
                long v = op <= 26 ? read(address, wide) : 0;
                if (op == 23 && v >= 32768) {
                    v -= 65536;
                }
                if (op == 25 && v >= 128) {
                    v -= 256;
                }
                if (op <= 26) {
                    r[d] = (int) v;
                }
                for (int i = 0; op >= 27 && i < wide; i++) {
                    octets[address + i] = (byte) (r[d] >> 8 * i);
                }
            } else if (op >= 30 && op <= 35) {
                long left = op >= 34 ? Integer.toUnsignedLong(r[d]) : r[d];
                long right = op >= 34 ? ux : x;
                boolean goes = op == 30 ? left == right : op == 31 ? left != right
                    : op % 2 == 0 ? left < right : left >= right;
                next = goes ? pc + 4 * m : next;
            } else if (op == 36 || op == 37) {
                int to = op == 36 ? pc + 4 * m : r[a] + m;
                r[d] = next;
                next = to;
            } else if (op == 21) {
                r[d] = (int) (raw * 16384L);
            } else if (op >= 1 && op <= 20) {
                String kinds = "+-&|^<>s,;*+&|^<>s,;";
                switch (kinds.charAt(op - 1)) {
                    case '+': r[d] = (int) (x + y); break;
                    case '-': r[d] = (int) (x - y); break;
                    case '&': r[d] = (int) (x & y); break;
                    case '|': r[d] = (int) (x | y); break;
                    case '^': r[d] = (int) (x ^ y); break;
                    case '<': r[d] = (int) (ux << shift); break;
                    case '>': r[d] = (int) (ux >> shift); break;
                    case 's': r[d] = (int) (x >> shift); break;
                    case ',': r[d] = x < y ? 1 : 0; break;
                    case ';': r[d] = ux < uy ? 1 : 0; break;
                    default: r[d] = (int) (x * y); break;
                }
            } else {
                trap(1);
                return;
            }
            r[0] = 0;
            pc = next;
        }

        void compare(PartHouse x, String when) {
            Check.due("pc, " + when, x.state(0, 0), pc);
            Check.due("cause, " + when, x.state(0, 2), cause);
            Check.due("halted, " + when, x.state(0, 1), halted ? 1 : 0);
            for (int i = 0; i < 16; i++) {
                Check.due("r" + i + ", " + when, x.register(0, i), r[i]);
            }
            for (int i = 0; i < octets.length / 4; i++) {
                Check.due("word " + i + ", " + when, x.memory(0, i), (int) read(4 * i, 4));
            }
        }
    }
}
