/** Section 2, TEXTS, sentence by sentence, at its boundaries. */
public final class TextEdgeTest {
    private static final String[] WITH_N = {"addi", "andi", "ori", "xori", "shli", "shri", "sari", "lessi", "belowi"};
    private static final String[] MEMORY = {"ldw", "ldh", "ldhu", "ldo", "ldou", "stw", "sth", "sto"};
    private static final String[] BRANCHES = {"beq", "bne", "blt", "bge", "bltu", "bgeu"};

    public static void main(String[] args) {
        textLength();
        placesOfLongTexts();
        rowLength();
        inPlace();
        singleOctets();
        names();
        numbers();
        passedOver();
        asManyOctetsAsItCan();
        lines();
        registers();
        numbersWithSign();
        roomBounds();
        instructionBounds();
        otherBounds();
        labelAddresses();
        labelNames();
        showingBits();
        showingNumbers();
        whatIsNotTold();
        faultPlaces();
        leastNumber();
        noTokens();
        misplacedTokens();
        unknownNames();
        numbersBeyondBounds();
        labelsToldTwice();
        labelsTooMany();
        wordsTooMany();
        labelsNotTold();
        rowStays();
        Check.end("TextEdgeTest");
    }

    private static int op(int op, int d, int a, int rest) {
        return op << 26 | d << 22 | a << 18 | rest & 0x3FFFF;
    }

    /** THE TEXT has so many line ends. */
    private static PartHouse typed(int octets) {
        PartHouse x = new PartHouse();
        for (int left = octets; left > 0; left -= 8) {
            x.type(0x0A0A0A0A0A0A0A0AL, Math.min(left, 8));
        }
        return x;
    }

    private static void textLength() {
        Check.about("THE TEXT has at most 6000 octets");
        for (int n = 1; n <= 8; n++) {
            PartHouse x = typed(6000 - n);
            Check.due("octets", x.told(8), 6000 - n);
            if (n < 8) {
                int more = n + 1;
                Check.refused(x, "type of " + more, () -> x.type(0x3F3F3F3F3F3F3F3FL, more), -4);
            }
            Check.due("type of " + n, x.type(0x0A0A0A0A0A0A0A0AL, n), 6000);
            Check.refused(x, "type of 1 behind 6000", () -> x.type(10, 1), -4);
            Check.refused(x, "type of 8 behind 6000", () -> x.type(0x3F3F3F3F3F3F3F3FL, 8), -4);
            Check.due("the text is as it was", x.assemble(), 0);
            Check.due("and had no fault", x.place(), -1);
        }
        PartHouse x = typed(6000);
        Check.due("type of 0 empties a full text", x.type(-1, 0), 0);
        Check.due("told", x.told(8), 0);
        Check.due("type goes on from 0", x.type(10, 1), 1);
    }

    private static void placesOfLongTexts() {
        Check.about("places from 0");
        Check.fault("?", 1, 0);
        PartHouse x = typed(5999);
        x.type('?', 1);
        Check.due("the last octet", x.assemble(), -11);
        Check.due("its place", x.place(), 5999);
        x = typed(5997);
        x.type(0x616464, 3);
        Check.due("a statement that lacks its operands", x.assemble(), -12);
        Check.due("the place is the text's length", x.place(), 6000);
        x = typed(5996);
        x.type(0x6261636BL, 4);
        Check.due("a statement at the end", x.assemble(), 1);
        Check.due("word", x.word(0), 39 << 26);
    }

    private static void rowLength() {
        Check.about("THE ROW at most 2048 words");
        for (int before = 2044; before <= 2048; before++) {
            PartHouse x = new PartHouse();
            Check.due("assemble", Check.assemble(x, "room " + before), before);
            if (before == 2044) {
                Check.due("feed", x.feed(1, 2, 3, 4), 2048);
                Check.due("the last word", x.word(2047), 4);
            } else {
                Check.refused(x, "feed behind " + before, () -> x.feed(1, 2, 3, 4), -4);
            }
            Check.due("word 2048", x.word(2048), 0);
        }
    }

    private static void inPlace() {
        Check.about("ASSEMBLING makes THE ROW (in place of what it was) of THE TEXT");
        PartHouse x = new PartHouse();
        x.feed(1, 2, 3, 4);
        Check.due("assemble", Check.assemble(x, "word 9"), 1);
        Check.due("words", x.told(7), 1);
        Check.due("word 0", x.word(0), 9);
        Check.due("word 1", x.word(1), 0);
        Check.due("feed goes behind", x.feed(5, 6, 7, 8), 5);
        Check.due("word 1", x.word(1), 5);
        Check.due("an empty text", x.assemble(), 0);
        Check.due("makes an empty row", x.told(7) + x.word(0), 0);
        Check.due("a full text of nothing", Check.assemble(x, "\n;\n"), 0);
    }

    /** What each octet is by itself. */
    private static void singleOctets() {
        Check.about("the signs , : - and line ends (10). 32, 9, 13 and all from ;");
        for (int c = 0; c < 256; c++) {
            boolean passed = c == 10 || c == 32 || c == 9 || c == 13 || c == ';';
            boolean sign = c == ',' || c == ':' || c == '-' || c >= '0' && c <= '9';
            boolean letter = c >= 'a' && c <= 'z';
            int fault = sign ? 2 : letter ? 3 : 1;
            PartHouse x = new PartHouse();
            x.type(c, 1);
            Check.due("octet " + c, x.assemble(), passed ? 0 : -10 - fault);
            Check.due("place of octet " + c, x.place(), passed ? -1 : 0);
            // Behind a NAME and a NUMBER: letters and figures lengthen the one, figures the other.
            boolean inName = letter || c >= '0' && c <= '9';
            x = new PartHouse();
            Check.assemble(x, "word ab" + (char) c + "cd");
            int place = inName || c == ';' || c == 10 ? 5 : passed ? 8 : 7;
            Check.due("place of a name with octet " + c, x.place(), c == 10 ? 8 : place);
            x = new PartHouse();
            Check.assemble(x, "ask 12" + (char) c);
            Check.due("place of a number with octet " + c, x.place(), passed || c >= '0' && c <= '9' ? -1 : 6);
        }
    }

    private static void names() {
        Check.about("NAMES (a letter a .. z, then letters and figures, 8 at most)");
        Check.makes("a: word a", 0);
        Check.makes("z: word z", 0);
        Check.makes("abcdefgh: word abcdefgh", 0);
        Check.makes("z9999999: word z9999999", 0);
        Check.makes("zzzzzzzz: word zzzzzzzz", 0);
        Check.fault("abcdefghi: back", 1, 0);
        Check.fault("a00000000: back", 1, 0);
        Check.fault("word abcdefghi", 1, 5);
        Check.fault("back\n abcdefghijklmnopqrstuvwxyz", 1, 6);
        Check.fault("add abcdefghi", 1, 4);
        Check.fault("9a: back", 2, 0);
        // Names that differ in their first or last octet alone.
        Check.makes("word abcdefgh\nword bbcdefgh\nabcdefgh: word abcdefgi\nbbcdefgh:\nabcdefgi:", 8, 12, 12);
    }

    private static void numbers() {
        Check.about("NUMBERS (1 to 10 figures, or 0x and 1 to 8 of 0 .. 9, a .. f)");
        Check.makes("word 0\nword 9\nword 4294967295\nword 0000000007", 0, 9, -1, 7);
        Check.fault("word 00000000007", 1, 5);
        Check.fault("word 12345678901", 1, 5);
        Check.fault("ask 0\nword 99999999999999999999999999999", 1, 11);
        Check.makes("word 0x0\nword 0xf\nword 0x9a\nword 0xffffffff\nword 0x00000001", 0, 15, 0x9a, -1, 1);
        Check.fault("word 0x000000001", 1, 5);
        Check.fault("word 0xfffffffff", 1, 5);
        Check.fault("word 0xA", 2, 6);
        Check.fault("word 0x1A", 1, 8);
        Check.fault("word 0x1g", 2, 8);
        Check.fault("word -0x100000000", 1, 6);
    }

    private static void passedOver() {
        Check.about("32, 9, 13 and all from ; to before the next line end (or the text's end) are passed over");
        for (int c = 0; c < 256; c++) {
            if (c != 10) {
                Check.makes("back;" + (char) c + "?\nback", 39 << 26, 39 << 26);
                Check.makes("back;" + (char) c + "?", 39 << 26);
            }
        }
        Check.makes(" \t\rhigh\t\r r1 \r, \t 5\r\n", op(21, 1, 0, 5));
        Check.makes(";");
        Check.makes(";;;\n;");
        Check.makes(" \t\r");
        Check.makes("word 7;8;9", 7);
        Check.makes("back;\nback", 39 << 26, 39 << 26);
        Check.fault("add r1, ; r2, r3", 2, 16);
        Check.fault("add r1, ; r2, r3\n r2, r3", 2, 16);
        Check.fault("a;b:\n", 3, 0);
    }

    private static void asManyOctetsAsItCan() {
        Check.about("A token takes as many octets as it can (0x without such a figure behind it is the NUMBER 0 and a NAME)");
        Check.fault("word 0x", 2, 6);
        Check.fault("word 0x\n", 2, 6);
        // What an earlier, longer text had behind it is not there.
        PartHouse x = new PartHouse();
        Check.due("a longer text", Check.assemble(x, "word 0x5"), 1);
        Check.due("assemble", Check.assemble(x, "word 0x"), -12);
        Check.due("place", x.place(), 6);
        Check.due("assemble", Check.assemble(x, "word 0"), 1);
        Check.due("assemble", Check.assemble(x, "word "), -12);
        Check.due("place", x.place(), 5);
        Check.fault("word 0x 5", 2, 6);
        Check.fault("word 0xy", 2, 6);
        Check.fault("word 0xxxxxxxxx", 1, 6);
        Check.fault("word 00x1", 2, 7);
        Check.fault("word 10x1", 2, 7);
        Check.fault("word 1x1", 2, 6);
        Check.fault("word 5r1", 2, 6);
        Check.fault("add r1r2, r3, r4", 3, 4);
        Check.fault("addr1, r2, r3", 3, 0);
        Check.fault("add1", 3, 0);
        Check.makes("word12: word word12", 0);
        Check.makes("ask5:ask 5", 38 << 26 | 5);
        Check.makes("word 0x1f;g", 31);
        Check.makes("word-5\nask 5;", -5, 38 << 26 | 5);
    }

    private static void lines() {
        Check.about("the last one may lack its line end; one NAME at most before a statement");
        Check.makes("");
        Check.makes("\n");
        Check.makes("back", 39 << 26);
        Check.makes("back\n", 39 << 26);
        Check.makes("back\n\n\nback", 39 << 26, 39 << 26);
        Check.makes("a:");
        Check.makes("a:\n");
        Check.makes("a:back", 39 << 26);
        Check.makes("a:\nb:\nc: back\nword b", 39 << 26, 0);
        Check.fault("a: b: back", 3, 3);
        Check.fault("a: ask: back", 2, 6);
        Check.fault("a: back:", 2, 7);
        Check.fault("a b: back", 3, 0);
        Check.fault("back back", 2, 5);
        Check.fault("back a:", 2, 5);
        Check.fault("word 5 word 6", 2, 7);
        Check.fault("a\n: back", 3, 0);
        Check.fault("add r1,\nr2, r3", 2, 7);
    }

    private static void registers() {
        Check.about("R being a NAME r0 .. r15 (as written so)");
        for (int r = 0; r <= 15; r++) {
            Check.makes("add r" + r + ", r0, r0", op(1, r, 0, 0));
            Check.makes("add r0, r" + r + ", r0", op(1, 0, r, 0));
            Check.makes("add r0, r0, r" + r, op(1, 0, 0, r << 14));
        }
        String[] none = {"r16", "r17", "r19", "r20", "r25", "r00", "r01", "r09", "r010", "r015", "r", "r1a", "ra", "s1", "rr", "r100", "r150", "q15"};
        for (String name : none) {
            Check.fault("add " + name + ", r0, r0", 3, 4);
            Check.fault("add r0, " + name + ", r0", 3, 8);
            Check.fault("add r0, r0, " + name, 3, 12);
            Check.fault("jump " + name + ", 0", 3, 5);
        }
        Check.fault("add 1, r0, r0", 2, 4);
        Check.fault("add -, r0, r0", 2, 4);
        Check.fault("add R1, r0, r0", 1, 4);
    }

    private static void numbersWithSign() {
        Check.about("N a NUMBER or - and a NUMBER");
        Check.makes("word -1\nword - 1\nword -\t\r1\nword -0x1", -1, -1, -1, -1);
        Check.makes("word -0", 0);
        Check.fault("word --1", 2, 6);
        Check.fault("word - -1", 2, 7);
        Check.fault("word -", 2, 6);
        Check.fault("word -\n1", 2, 6);
        Check.fault("word - ; 1\n1", 2, 10);
        Check.fault("word -x\nx:", 2, 6);
        Check.fault("jump r0, -x\nx:", 2, 10);
        Check.fault("word 1-", 2, 6);
        Check.fault("word -?", 1, 6);
    }

    private static void roomBounds() {
        Check.about("room so many words 0 (N 1 .. 2048)");
        Check.makes("room 1", 0);
        Check.makes("room 2048", new int[2048]);
        Check.makes("word 1\nroom 2\nword 2", 1, 0, 0, 2);
        PartHouse x = new PartHouse();
        Check.due("a text before", Check.assemble(x, "word 1\nword 2\nword 3"), 3);
        Check.due("assemble", Check.assemble(x, "word 4\nroom 2"), 3);
        Check.due("words 0", x.word(0) * 100 + x.word(1) * 10 + x.word(2), 400);
        Check.fault("room 0", 5, 5);
        Check.fault("room 2049", 5, 5);
        Check.fault("room -1", 5, 6);
        Check.fault("room - 0", 5, 7);
        Check.fault("room 9999999999", 5, 5);
        Check.fault("room 0xffffffff", 5, 5);
        Check.fault("room 4294967297", 5, 5);
        Check.fault("room x\nx:", 2, 5);
    }

    private static void bounds(String before, int word, long least, long most) {
        Check.makes(before + least, word | (int) least & 0x3FFFF);
        Check.makes(before + most, word | (int) most & 0x3FFFF);
        Check.fault(before + (most + 1), 5, before.length());
        Check.fault(before + "0xffffffff", 5, before.length());
        Check.fault(before + "9999999999", 5, before.length());
        Check.fault(before + "-" + (1 - least), 5, before.length() + 1);
        Check.fault(before + "- 9999999999", 5, before.length() + 2);
    }

    private static void instructionBounds() {
        Check.about("N is - 131072 .. 131071");
        for (int i = 0; i < WITH_N.length; i++) {
            bounds(WITH_N[i] + " r1, r2, ", op(12 + i, 1, 2, 0), -131072, 131071);
        }
        for (int i = 0; i < MEMORY.length; i++) {
            bounds(MEMORY[i] + " r1, r2, ", op(22 + i, 1, 2, 0), -131072, 131071);
        }
        for (int i = 0; i < BRANCHES.length; i++) {
            bounds(BRANCHES[i] + " r1, r2, ", op(30 + i, 1, 2, 0), -131072, 131071);
        }
        bounds("jump r1, ", op(36, 1, 0, 0), -131072, 131071);
        bounds("jumpr r1, r2, ", op(37, 1, 2, 0), -131072, 131071);
    }

    private static void otherBounds() {
        Check.about("of high 0 .. 262143, of ask 0 .. 131071, of word - 2147483648 .. 4294967295");
        bounds("high r1, ", op(21, 1, 0, 0), 0, 262143);
        bounds("ask ", 38 << 26, 0, 131071);
        Check.makes("word -2147483648\nword 4294967295\nword 0", Integer.MIN_VALUE, -1, 0);
        Check.makes("word 2147483647\nword 2147483648", Integer.MAX_VALUE, Integer.MIN_VALUE);
        Check.fault("word 4294967296", 5, 5);
        Check.fault("word -2147483649", 5, 6);
        Check.fault("word - 0xffffffff", 5, 7);
        Check.fault("word 9999999999", 5, 5);
    }

    private static void labelAddresses() {
        Check.about("A label stands for the address (four times the place in THE ROW) of the word that comes next where it is told");
        PartHouse x = new PartHouse();
        Check.due("assemble", Check.assemble(x, "first: word end\nword first\njump r1, end\nroom 2043\nlast: word last\njump r2, first\nend:"), 2048);
        Check.due("behind the last word", x.word(0), 8192);
        Check.due("the first word", x.word(1), 0);
        Check.due("a jump behind all", x.word(2), op(36, 1, 0, 2046));
        Check.due("the last but one", x.word(2046), 4 * 2046);
        Check.due("a jump to the beginning", x.word(2047), op(36, 2, 0, -2047));
        for (int i = 0; i < BRANCHES.length; i++) {
            Check.makes("a: " + BRANCHES[i] + " r1, r2, a\n" + BRANCHES[i] + " r1, r2, a\n" + BRANCHES[i] + " r3, r4, b\nb:",
                op(30 + i, 1, 2, 0), op(30 + i, 1, 2, -1), op(30 + i, 3, 4, 1));
        }
        Check.makes("word a\na:", 4);
        Check.makes("a: word a\nb: word b\nb2:\nb3: word b2\nword b3", 0, 4, 8, 8);
        Check.makes("room 5\na: room 3\nb: word a\nword b", 0, 0, 0, 0, 0, 0, 0, 0, 20, 32);
    }

    private static void labelNames() {
        Check.about("told names may be those of statements and registers, too, where a label can stand");
        Check.makes("r0: jump r0, r0", op(36, 0, 0, 0));
        Check.makes("r15: beq r15, r15, r15", op(30, 15, 15, 0));
        Check.makes("back: back\nword back", 39 << 26, 0);
        Check.makes("back\nroom: room 1\nword: word room\nask: word word", 39 << 26, 0, 4, 8);
        Check.makes("jump: jump r1, jump", op(36, 1, 0, 0));
        Check.fault("addi r1, r2, r3\nr3:", 2, 13);
        Check.fault("add r1, r2, add\nadd:", 3, 12);
        Check.fault("word add", 7, 5);
        Check.fault("ask ask\nask:", 2, 4);
    }

    /** No statement makes a word with a bit that none of its operands has. */
    private static void showingBits() {
        Check.about("if none makes it: word, a blank, and w as a number with its sign");
        for (int op = 0; op < 64; op++) {
            for (int bit = -1; bit < 26; bit++) {
                int w = op << 26 | (bit < 0 ? 0 : 1 << bit);
                String text = Check.shownText(new PartHouse(), w);
                Check.due("show of op " + op + ", bit " + bit + " <" + text + ">",
                    text.equals("word " + w) ? 0 : 1, isOperandBit(op, bit) ? 1 : 0);
                PartHouse x = new PartHouse();
                Check.due("assemble of <" + text + ">", Check.assemble(x, text), 1);
                Check.due("word of <" + text + ">", x.word(0), w);
            }
        }
    }

    private static boolean isOperandBit(int op, int bit) {
        if (op == 0 || op > 39 || bit < 0) {
            return op >= 1 && op <= 39;
        }
        if (op <= 11) {
            return bit >= 14;
        }
        if (op == 21 || op == 36) {
            return bit < 18 || bit >= 22;
        }
        return op < 38 || op == 38 && bit < 17;
    }

    private static void shows(int w, String text) {
        PartHouse x = new PartHouse();
        Check.due("octets of <" + text + ">", x.show(w), text.length());
        for (int k = -1; k <= 40; k++) {
            Check.due("octet " + k + " of <" + text + ">", x.shown(k), k >= 0 && k < text.length() ? text.charAt(k) : 0);
        }
    }

    private static void showingNumbers() {
        Check.about("numbers in figures, - before those below 0");
        for (int n : new int[] {0, 1, -1, 9, 10, -9, -10, 99, 100, 12345, 99999, 100000, -100000, 131071, -131072}) {
            shows(op(20, 15, 10, n), "belowi r15, r10, " + n);
            shows(op(30, 0, 9, n), "beq r0, r9, " + n);
            shows(op(36, 3, 0, n), "jump r3, " + n);
            shows(op(21, 3, 0, n), "high r3, " + (n & 0x3FFFF));
        }
        shows(0, "word 0");
        shows(1, "word 1");
        shows(-1, "word -1");
        shows(40 << 26, "word " + (40 << 26));
        shows(Integer.MIN_VALUE | 1 << 29, "word " + (Integer.MIN_VALUE | 1 << 29));
        shows(39 << 26, "back");
        shows(39 << 26 | 1, "word " + (39 << 26 | 1));
        shows(38 << 26, "ask 0");
        shows(op(37, 15, 15, -131072), "jumpr r15, r15, -131072");
        shows(67108863, "word 67108863");
        shows(67108864, "add r0, r0, r0");
        Check.about("Octet k of what was shown last; 0 where there is none");
        PartHouse x = new PartHouse();
        x.show(op(20, 15, 15, -131072));
        x.show(0);
        Check.due("what was longer is gone", x.shown(6) + x.shown(7) + x.shown(23), 0);
        Check.due("shown(MAX)", x.shown(Integer.MAX_VALUE), 0);
        Check.due("shown(MIN)", x.shown(Integer.MIN_VALUE), 0);
    }

    private static void whatIsNotTold() {
        Check.about("What is not told is 0");
        Check.makes("add r0, r0, r0", 1 << 26);
        Check.makes("mul r15, r15, r15", op(11, 15, 15, 15 << 14));
        Check.makes("high r15, 0", op(21, 15, 0, 0));
        Check.makes("jump r15, 0", op(36, 15, 0, 0));
        Check.makes("ask 0", 38 << 26);
        Check.makes("back", 39 << 26);
        Check.makes("addi r0, r0, 0", 12 << 26);
    }

    private static void faultPlaces() {
        Check.about("the first in THE TEXT (at a token's first octet; the text's length at its end)");
        Check.fault("add", 2, 3);
        Check.fault("add ", 2, 4);
        Check.fault("add r1, r2, \t\r ;r3", 2, 18);
        Check.fault("add\n", 2, 3);
        Check.fault("  add r1, r2, r99 ?", 3, 14);
        Check.fault("? \nadd r99", 1, 0);
        Check.fault("add r99 ?", 3, 4);
        Check.fault("back\nfoo\n?", 3, 5);
        Check.fault("addi r1, r2, 131072 ?", 5, 13);
        Check.fault("word x\nback back", 2, 12);
        Check.fault("a:\na: ?", 4, 3);
        Check.fault("high r1, -262144 , ,", 5, 10);
    }

    private static void leastNumber() {
        Check.about("of one token the least number");
        Check.fault("addi r1, 131072", 2, 9);
        Check.fault("99999999999", 1, 0);
        Check.fault("add registers", 1, 4);
        Check.fault("ask 99999999999", 1, 4);
        Check.fault("room 2048\nabcdefghi", 1, 10);
        Check.fault("room 2048\nfoo", 3, 10);
        Check.fault("room 2048\n5", 2, 10);
        Check.fault("word abcdefghi", 1, 5);
    }

    private static void noTokens() {
        Check.about("1 no token begins there, or it is too long");
        for (String bad : new String[] {"?", "A", "_", "(", ".", "+", "\"", "0123456789a", "00000000000", "0x000000000", "abcdefghi", "r12345678"}) {
            boolean split = bad.equals("0123456789a");
            Check.fault(bad, split ? 2 : 1, 0);
            Check.fault("a: " + bad, split ? 2 : 1, 3);
            Check.fault("add " + bad, split ? 2 : 1, 4);
            Check.fault("add r1" + " " + bad, split ? 2 : 1, 7);
            Check.fault("add r1, r2, r3 " + bad, split ? 2 : 1, 15);
            Check.fault("back\n" + bad, split ? 2 : 1, 5);
            Check.fault("word - " + bad, split ? 2 : 1, split ? 17 : 7);
        }
    }

    /** What may stand at a token of a statement: R, a comma, N, L or N, the end of the line. */
    private static final String[][] FORMS = {{"add", "R", ",", "R", ",", "R", "$"}, {"addi", "R", ",", "R", ",", "N", "$"}, {"stw", "R", ",", "R", ",", "N", "$"},
        {"jumpr", "R", ",", "R", ",", "N", "$"}, {"high", "R", ",", "N", "$"}, {"beq", "R", ",", "R", ",", "L", "$"}, {"jump", "R", ",", "L", "$"}, {"ask", "N", "$"},
        {"back", "$"}, {"word", "L", "$"}, {"room", "N", "$"}};

    private static String right(String form) {
        return form.equals("R") ? "r1" : form.equals("N") || form.equals("L") ? "5" : form.equals("$") ? "\n" : form;
    }

    /** One token of a statement is another one: the fault is there, or at the next one behind a - that may stand. */
    private static void misplacedTokens() {
        Check.about("2 it can't come there");
        String[] others = {",", ":", "-", "7", "zz", "r2", "\n", "?"};
        for (String[] form : FORMS) {
            for (int at = 1; at < form.length; at++) {
                StringBuilder before = new StringBuilder(form[0]);
                for (int i = 1; i < at; i++) {
                    before.append(' ').append(right(form[i]));
                }
                StringBuilder behind = new StringBuilder();
                for (int i = at + 1; i < form.length; i++) {
                    behind.append(' ').append(right(form[i]));
                }
                for (String other : others) {
                    replaced(before + " ", other, behind.toString(), form[at], at == 1);
                }
                // The text ends here.
                if (!form[at].equals("$")) {
                    Check.fault(before + " ", 2, before.length() + 1);
                }
            }
        }
    }

    private static void replaced(String before, String other, String behind, String form, boolean first) {
        boolean name = other.equals("zz") || other.equals("r2");
        boolean number = form.equals("N") || form.equals("L");
        int place = before.length();
        if (first && other.equals(":")) {
            // The statement's name is a label then, and what is behind it stands where a statement must be.
            return;
        }
        if (other.equals("?")) {
            Check.fault(before + other + behind, 1, place);
        } else if (right(form).equals(other) || form.equals("R") && other.equals("r2") || number && other.equals("7")) {
            Check.due("assemble of <" + before + other + behind + ">", Check.assemble(new PartHouse(), before + other + behind) > 0 ? 1 : 0, 1);
        } else if (form.equals("R") && name) {
            Check.fault(before + other + behind, 3, place);
        } else if (form.equals("L") && name) {
            Check.fault(before + other + behind, 7, place);
        } else if (number && other.equals("-")) {
            Check.fault(before + other + behind, 2, place + 2);
        } else {
            Check.fault(before + other + behind, 2, place);
        }
    }

    private static void unknownNames() {
        Check.about("3 a NAME where a statement must be, that is none; one where R must be, that is none");
        for (String name : new String[] {"a", "ad", "addd", "adds", "r1", "r15", "muli", "subi", "highi", "ld", "st", "b", "jumpl", "asks", "backs", "words", "rooms", "zzzzzzzz"}) {
            Check.fault(name, 3, 0);
            Check.fault("l: " + name + " r1, r2, r3", 3, 3);
            Check.fault("back\n" + name + "\n?", 3, 5);
            if (name.charAt(0) != 'r' || name.equals("rooms")) {
                Check.fault("add " + name, 3, 4);
                Check.fault("add r1, " + name, 3, 8);
                Check.fault("addi r1, " + name, 3, 9);
                Check.fault("beq r1, " + name + ", x", 3, 8);
            }
        }
        String[] all = {"add", "sub", "and", "or", "xor", "shl", "shr", "sar", "less", "below", "mul", "addi", "andi", "ori", "xori", "shli", "shri", "sari",
            "lessi", "belowi", "high", "ldw", "ldh", "ldhu", "ldo", "ldou", "stw", "sth", "sto", "beq", "bne", "blt", "bge", "bltu", "bgeu", "jump", "jumpr"};
        for (String statement : all) {
            Check.fault(statement, 2, statement.length());
            Check.fault(statement + " " + statement, 3, statement.length() + 1);
        }
    }

    private static void numbersBeyondBounds() {
        Check.about("5 a NUMBER (at its first octet, not at -) beyond its bounds");
        Check.fault("addi r1, r2,   131072", 5, 15);
        Check.fault("addi r1, r2, -   131073", 5, 17);
        Check.fault("high r1, - 1", 5, 11);
        Check.fault("ask -1", 5, 5);
        Check.fault("word -2147483649", 5, 6);
        Check.fault("room -2048", 5, 6);
        Check.fault("beq r1, r2, -0x20001", 5, 13);
        Check.makes("beq r1, r2, -0x20000", op(30, 1, 2, -131072));
        Check.fault("addi r1, r2, 131072, r3", 5, 13);
    }

    private static String manyLabels(int count) {
        StringBuilder text = new StringBuilder();
        for (int i = 0; i < count; i++) {
            text.append('a').append(i).append(":\n");
        }
        return text.toString();
    }

    private static void labelsToldTwice() {
        Check.about("4 a label that is told already");
        Check.makes("a:\naa:\nb:");
        Check.fault("a: back\na: back", 4, 8);
        Check.fault("a:\nb:\n a:", 4, 7);
        Check.fault("a: word a\n;a:\na:", 4, 14);
        Check.fault("add: back\nadd: back", 4, 10);
        String most = manyLabels(200);
        Check.fault(most + "a199:", 4, most.length());
        Check.fault(most + "a0:", 4, most.length());
    }

    private static void labelsTooMany() {
        Check.about("at a label: the 201st");
        PartHouse x = new PartHouse();
        Check.due("200 labels", Check.assemble(x, manyLabels(200) + "word a0\nword a199"), 2);
        String most = manyLabels(200);
        Check.fault(most + "b:", 6, most.length());
        Check.fault(most + " b: back ?", 6, most.length() + 1);
        Check.fault(most + "word b", 7, most.length() + 5);
        Check.due("labels do not stay", Check.assemble(x, manyLabels(200)), 0);
    }

    private static void wordsTooMany() {
        Check.about("at a statement: with it there would be more than 2048 words (of room: by a NUMBER within its bounds, else 5)");
        PartHouse x = new PartHouse();
        Check.due("2048 words", Check.assemble(x, "room 2047\nback"), 2048);
        Check.due("2048 words", Check.assemble(x, "room 1\nroom 2047"), 2048);
        Check.due("a label behind them", Check.assemble(x, "room 2048\na:\n\n"), 2048);
        String full = "room 2048\n";
        String[] statements = {"add", "addi r1", "high ?", "beq r1, r2, x", "jump r0, 999999", "ask -1", "back", "word 5", "word x", "ldw", "jumpr"};
        for (String statement : statements) {
            Check.fault(full + statement, 6, 10);
            Check.fault(full + "a: " + statement, 6, 13);
        }
        Check.fault("room 2047\nback\nback", 6, 15);
        Check.fault("room 2047\nroom 2", 6, 10);
        Check.fault("room 2000\nroom 48\nroom 1", 6, 18);
        Check.fault(full + "room 1", 6, 10);
        Check.fault(full + "room 2048 ?", 6, 10);
        Check.fault(full + "room 0", 5, 15);
        Check.fault(full + "room 2049", 5, 15);
        Check.fault(full + "room -1", 5, 16);
        Check.fault(full + "room", 2, 14);
        Check.fault(full + "room x", 2, 15);
        Check.fault(full + "room ?", 1, 15);
        Check.fault(full + "room 99999999999", 1, 15);
    }

    private static void labelsNotTold() {
        Check.about("Behind all: 7 a label that is not told, the first one");
        Check.fault("word x", 7, 5);
        Check.fault("jump r0, y\nword x", 7, 9);
        Check.fault("x: word x\nword y\nword z", 7, 15);
        Check.fault("beq r1, r2, x\ny: jump r1, y", 7, 12);
        Check.fault("word x\nword 4294967296", 5, 12);
        Check.fault("word x\n?", 1, 7);
        Check.fault("word x\nroom 2048", 6, 7);
        Check.makes("word x\nx:", 4);
        Check.fault("word x\ny:", 7, 5);
        Check.fault("word x\nx", 3, 7);
    }

    private static void rowStays() {
        Check.about("With a fault THE ROW stays");
        String[] faulty = {"word 5\n?", "word 5\n5", "word 5\nfoo", "a:word 5\na:", "word 5\nroom 0", "room 2048\nback", "word x"};
        for (int i = 0; i < faulty.length; i++) {
            PartHouse x = new PartHouse();
            x.feed(1, 2, 3, 4);
            x.drop(1);
            Check.due("assemble", Check.assemble(x, faulty[i]), -11 - i);
            Check.due("words", x.told(7), 3);
            Check.due("as they were", x.word(0) * 100 + x.word(1) * 10 + x.word(2), 123);
            Check.due("the text is empty", x.told(8), 0);
            Check.due("and a good one again", Check.assemble(x, "word 5"), 1);
            Check.due("has no fault", x.place(), -1);
        }
    }
}
