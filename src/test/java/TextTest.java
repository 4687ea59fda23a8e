/** Promises 1 to 4: THE TEXT, ASSEMBLING and its FAULTS. */
public final class TextTest {
    public static void main(String[] args) {
        newObject();
        typing();
        words();
        tokens();
        labels();
        faults();
        bounds();
        again();
        limits();
        Check.end("TextTest");
    }

    private static void newObject() {
        PartHouse x = new PartHouse();
        for (int what = 0; what <= 8; what++) {
            Check.due("told(" + what + ")", x.told(what), 0);
        }
        Check.due("place()", x.place(), -1);
        Check.due("shown(0)", x.shown(0), 0);
        Check.due("kind(1)", x.kind(1), -1);
        for (int i = 0; i < 64; i++) {
            Check.due("block", x.block(i, 0) + x.block(i, 1), 0);
        }
        Check.due("safe(0, 16)", x.safe(0, 16), -1);
    }

    private static void typing() {
        PartHouse x = new PartHouse();
        Check.due("type of 9", x.type(0, 9), -2);
        Check.due("type of -1", x.type(0, -1), -2);
        Check.due("type back", x.type(0x6261636BL, 4), 4);
        Check.due("type, high octets do not count", x.type(0x7777770A00000000L | 0x0A, 1), 5);
        Check.due("told(8)", x.told(8), 5);
        Check.due("assemble", x.assemble(), 1);
        Check.due("the text is empty", x.told(8), 0);
        Check.due("word", x.word(0), 39 << 26);
        Check.due("type", x.type(0x41L, 1), 1);
        Check.due("a fault empties the text too", x.assemble(), -11);
        Check.due("told(8)", x.told(8), 0);
        Check.due("place", x.place(), 0);
        Check.due("the row stays", x.word(0), 39 << 26);
        Check.due("told(7)", x.told(7), 1);
        Check.due("type", x.type(5, 3), 3);
        Check.due("type of none empties", x.type(5, 0), 0);
        Check.due("told(8)", x.told(8), 0);
        Check.due("an empty text makes an empty row", x.assemble(), 0);
        Check.due("told(7)", x.told(7), 0);
        Check.due("place", x.place(), -1);
    }

    private static int op(int op, int d, int a, int rest) {
        return op << 26 | d << 22 | a << 18 | rest & 0x3FFFF;
    }

    private static void words() {
        String[] three = {"add", "sub", "and", "or", "xor", "shl", "shr", "sar", "less", "below", "mul"};
        for (int i = 0; i < three.length; i++) {
            Check.makes(three[i] + " r15,r1,r10", op(i + 1, 15, 1, 10 << 14));
        }
        String[] withN = {"addi", "andi", "ori", "xori", "shli", "shri", "sari", "lessi", "belowi"};
        for (int i = 0; i < withN.length; i++) {
            Check.makes(withN[i] + " r3, r4, -5", op(12 + i, 3, 4, -5));
        }
        String[] memory = {"ldw", "ldh", "ldhu", "ldo", "ldou", "stw", "sth", "sto"};
        for (int i = 0; i < memory.length; i++) {
            Check.makes(memory[i] + " r3, r4, 131071", op(22 + i, 3, 4, 131071));
        }
        String[] branches = {"beq", "bne", "blt", "bge", "bltu", "bgeu"};
        for (int i = 0; i < branches.length; i++) {
            Check.makes(branches[i] + " r3, r4, -131072", op(30 + i, 3, 4, -131072));
            Check.makes("back\nx: back\n" + branches[i] + " r3, r4, x", 39 << 26, 39 << 26, op(30 + i, 3, 4, -1));
        }
        Check.makes("high r7, 262143", op(21, 7, 0, 262143));
        Check.makes("jump r7, 9", op(36, 7, 0, 9));
        Check.makes("jump r7, x\nroom 2\nx:", op(36, 7, 0, 3), 0, 0);
        Check.makes("jumpr r7, r8, 12", op(37, 7, 8, 12));
        Check.makes("ask 131071", op(38, 0, 0, 131071));
        Check.makes("back", 39 << 26);
        Check.makes("word 5\nword -5\nword x\nx: word 0x80000000", 5, -5, 12, 0x80000000);
        Check.makes("room 3\nword 1", 0, 0, 0, 1);
    }

    private static void tokens() {
        Check.makes(" \t\r word\t7 ; a remark: add , - ?!\n;word 8\nword 9;", 7, 9);
        Check.makes("word 0xff\nword 0x0000000f\nword 0000000012", 255, 15, 12);
        Check.makes("word - 6\nword -\t0x6", -6, -6);
        Check.makes("ask 0\nhigh r1,-0\nask-0", 38 << 26, op(21, 1, 0, 0), 38 << 26);
        Check.makes("\n\n;\n\n");
        Check.makes("word 1:".substring(0, 6), 1);
        Check.makes("addi r1,r2,0xa;", op(12, 1, 2, 10));
        Check.fault("word 0x", 2, 6);
        Check.fault("word 0xg", 2, 6);
        Check.fault("word 00x5", 2, 7);
        Check.fault("word 5abc", 2, 6);
        Check.fault("word 0X5", 1, 6);
        Check.fault("word 12345678901", 1, 5);
        Check.fault("word 00000000000", 1, 5);
        Check.fault("word 0x000000000", 1, 5);
        Check.fault("word abcdefgh", 7, 5);
        Check.fault("word abcdefghi", 1, 5);
        Check.fault("word a2345678\nword ?", 1, 19);
        Check.fault("Add r1", 1, 0);
        Check.fault("add r1 . r2", 1, 7);
        Check.fault("back\n_", 1, 5);
        Check.fault("back" + (char) 0, 1, 4);
        Check.fault("back" + (char) 255, 1, 4);
    }

    private static void labels() {
        Check.makes("a: b1:".substring(0, 2));
        Check.makes("a:\nb:\n word a\n word b\n word c\nc:", 0, 0, 12);
        Check.makes("add: add r1,r2,r3\nr1: jump r1, r1\nbeq r1,r2,add\nroom: word room",
                op(1, 1, 2, 3 << 14), op(36, 1, 0, 0), op(30, 1, 2, -2), 12);
        Check.makes("back : back\nword back", 39 << 26, 0);
        Check.makes("jump r0, x\nx: jump r0, y\ny:", op(36, 0, 0, 1), op(36, 0, 0, 1));
        Check.makes("x:jump r0,x", op(36, 0, 0, 0));
        Check.fault("a: b: back", 3, 3);
        Check.fault("a: back: back", 2, 7);
        Check.fault("a: a: back", 3, 3);
        Check.fault("a:\na:\na", 4, 3);
        Check.fault("word x\nword y\nword z\nz:y:", 3, 23);
        Check.fault("word z\nword y\nword x\nz:", 7, 12);
        Check.fault("word x\nword 4294967296", 5, 12);
        Check.fault("a:: back", 2, 2);
        Check.fault(": back", 2, 0);
    }

    private static void faults() {
        Check.fault("5", 2, 0);
        Check.fault(", add", 2, 0);
        Check.fault("-", 2, 0);
        Check.fault("foo ?", 3, 0);
        Check.fault("foo: foo ?", 3, 5);
        Check.fault("a: 5", 2, 3);
        Check.fault("add", 2, 3);
        Check.fault("add ; what\n", 2, 10);
        Check.fault("add  ; what", 2, 11);
        Check.fault("add ,", 2, 4);
        Check.fault("add 5", 2, 4);
        Check.fault("add r1 r2", 2, 7);
        Check.fault("add r1, r2, r3 r4", 2, 15);
        Check.fault("add r1, r2, r3,", 2, 14);
        Check.fault("add r1, r2, r3 back", 2, 15);
        Check.fault("add r1, r2, r16", 3, 12);
        Check.fault("add r1, r02, r3", 3, 8);
        Check.fault("add r, r2, r3", 3, 4);
        Check.fault("add r20, r2, r3", 3, 4);
        Check.fault("add x1, r2, r3", 3, 4);
        Check.fault("add r1, r2, r100", 3, 12);
        Check.fault("add r1, r2, rr1", 3, 12);
        Check.fault("addi r1, r2, r3", 2, 13);
        Check.fault("addi r1, r2, x", 2, 13);
        Check.fault("addi r1, r2, -x", 2, 14);
        Check.fault("addi r1, r2, --1", 2, 14);
        Check.fault("addi r1, r2,", 2, 12);
        Check.fault("addi r1, r2, -", 2, 14);
        Check.fault("addi r1, r2, -\n", 2, 14);
        Check.fault("jumpr r1, r2, x", 2, 14);
        Check.fault("high r1, x", 2, 9);
        Check.fault("high r1, r2, 5", 2, 9);
        Check.fault("ask x", 2, 4);
        Check.fault("room x", 2, 5);
        Check.fault("back 5", 2, 5);
        Check.fault("word", 2, 4);
        Check.fault("word ,", 2, 5);
        Check.fault("word - x", 2, 7);
        Check.fault("word x, 5", 2, 6);
        Check.fault("jump x", 3, 5);
        Check.fault("jump r1, r2, x", 2, 11);
        Check.fault("beq r1, x", 3, 8);
        Check.fault("beq r1, r2, ,", 2, 12);
    }

    private static void bounds() {
        Check.fault("addi r1,r2,131072", 5, 11);
        Check.fault("addi r1,r2,- 131073 ?", 5, 13);
        Check.fault("addi r1,r2,0xffffffff", 5, 11);
        Check.fault("stw r1,r2,131072", 5, 10);
        Check.fault("jumpr r1,r2,131072", 5, 12);
        Check.fault("jump r1,131072", 5, 8);
        Check.fault("bne r1,r2,-131073", 5, 11);
        Check.fault("high r1,262144", 5, 8);
        Check.fault("high r1,-1", 5, 9);
        Check.fault("ask 131072", 5, 4);
        Check.fault("ask -1", 5, 5);
        Check.fault("word 4294967296", 5, 5);
        Check.fault("word 9999999999", 5, 5);
        Check.fault("word -2147483649", 5, 6);
        Check.fault("room 0", 5, 5);
        Check.fault("room -0", 5, 6);
        Check.fault("room 2049", 5, 5);
        Check.fault("room -1", 5, 6);
        Check.makes("word 4294967295\nword -2147483648\nword 2147483648", -1, 1 << 31, 1 << 31);
    }

    /** Nothing of a text before is left in a later one. */
    private static void again() {
        PartHouse x = new PartHouse();
        Check.due("words", Check.assemble(x, "a: word 1\nword 2\nword 0x5"), 3);
        Check.due("0x at the end", Check.assemble(x, "word 0x"), -12);
        Check.due("its place", x.place(), 6);
        Check.due("the row stays", x.word(1), 2);
        Check.due("a room", Check.assemble(x, "room 3"), 3);
        Check.due("is of words 0", x.word(0) + x.word(1) + x.word(2), 0);
        Check.due("no place", x.place(), -1);
        Check.due("a label of before", Check.assemble(x, "word a"), -17);
        Check.due("told again", Check.assemble(x, "word 7\na: word a"), 2);
        Check.due("its address", x.word(1), 4);
    }

    private static void limits() {
        PartHouse x = new PartHouse();
        Check.due("room 2048", Check.assemble(x, "room 2048\na:"), 2048);
        Check.fault("room 2047\nback\nback", 6, 15);
        Check.fault("room 2048\nword x", 6, 10);
        Check.fault("room 2048\nadd ?", 6, 10);
        Check.fault("room 2048\nroom 1", 6, 10);
        Check.fault("room 2000\nroom 49 ?", 6, 10);
        Check.fault("room 2000\nroom 0", 5, 15);
        Check.fault("room 2048\nroom 2049", 5, 15);
        Check.fault("room 2048\nroom -1", 5, 16);
        Check.fault("room 2048\nroom ,", 2, 15);
        Check.fault("room 2048\nroom ?", 1, 15);
        Check.fault("room 2048\nfoo", 3, 10);
        StringBuilder many = new StringBuilder();
        for (int i = 0; i < 200; i++) {
            many.append('a').append(i).append(":\n");
        }
        String text = many.toString();
        Check.due("200 labels", Check.assemble(x, text), 0);
        Check.fault(text + "b: back", 6, text.length());
        Check.fault(text + "a7: back", 4, text.length());
        longTexts();
    }

    private static void longTexts() {
        PartHouse x = new PartHouse();
        StringBuilder text = new StringBuilder();
        for (int i = 0; i < 461; i++) {
            text.append(i < 460 ? "jump r0,last\n" : "last: back;");
        }
        Check.due("a long text", Check.assemble(x, text.toString()), 461);
        Check.due("the first word", x.word(0), 36 << 26 | 460);
        for (int i = 0; i < 500; i++) {
            x = i == 0 ? new PartHouse() : x;
            x.type(0x3B3B3B3B3B3B3B3BL, 8);
        }
        Check.due("4000 octets", x.told(8), 4000);
        x = new PartHouse();
        for (int i = 0; i < 6000; i++) {
            x.type(10, 1);
        }
        Check.due("6000 octets", x.told(8), 6000);
        Check.due("one more", x.type(10, 1), -4);
        Check.due("6000 octets yet", x.told(8), 6000);
        Check.due("6000 line ends", x.assemble(), 0);
        for (int i = 0; i < 749; i++) {
            x.type(0, 8);
        }
        Check.due("7 of 8 do not fit", x.type(0, 8) * 10000 + x.type(0, 8), 6000 * 10000 - 4);
    }
}
