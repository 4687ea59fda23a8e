import java.util.Arrays;

/**
 * A monitor that holds partitions apart: it assembles texts of a small machine, boots and measures
 * what it loads, lets partitions run by slots, and judges what the outside can come to know.
 */
public final class PartHouse {
    private static final int NONE_SUCH = -1;
    private static final int NOT_AS_SAID = -2;
    private static final int NOT_NOW = -3;
    private static final int NO_ROOM = -4;

    private static final int MAX_ROW = 2048;
    private static final int MAX_LOADER = 256;
    private static final int MAX_CONFIG = 200;
    private static final int MAX_PARTITIONS = 8;
    private static final int LOADER = 8;
    private static final int CONFIG = 9;
    private static final int LEAST_SIZE = 16;

    private static final int MAX_BOOTS = 40;
    private static final int MAX_RUN = 2000;
    private static final int MAX_TICKS = 60000;
    private static final int MAX_CUT = 1000;
    private static final int MAX_OUTSIDE = 600;

    /* The kinds of TERMS. */
    private static final int NUMBER = 0;
    private static final int ROW = 1;
    private static final int SECRET = 2;
    private static final int PAIR = 3;
    private static final int HASH = 4;
    private static final int KEYED = 5;
    private static final int PUBLIC = 6;
    private static final int SIGNED = 7;
    private static final int CLOSED = 8;
    private static final int DERIVED = 9;

    /* The ops that are spoken of by name; 40 and 41 stand in texts alone. */
    private static final int OP_HIGH = 21;
    private static final int OP_JUMP = 36;
    private static final int OP_JUMPR = 37;
    private static final int OP_ASK = 38;
    private static final int OP_BACK = 39;
    private static final int OP_WORD = 40;
    private static final int OP_ROOM = 41;
    private static final int LAST_ASK = 34;
    private static final int M_BITS = 0x3FFFF;

    private final Lexer lexer = new Lexer();
    private final Assembler assembler = new Assembler(lexer);
    private final SafeCheck safeCheck = new SafeCheck();
    private final int[] row = new int[MAX_ROW];
    private int rowCount;
    private final int[][] kept = new int[CONFIG + 1][MAX_ROW];
    private final int[] keptCount = new int[CONFIG + 1];

    private final Terms terms = new Terms();
    private final Table outside = new Table(terms, MAX_OUTSIDE, 2048, true);
    private final Disk disk = new Disk(terms.none);
    private final Disk diskAtBoot = new Disk(terms.none);
    private final Machine machine = new Machine(terms, disk, true);
    private final Machine again = new Machine(terms, new Disk(terms.none), false);
    private Config spare = new Config();
    private int boots;

    public PartHouse() {
    }

    // ---- texts and rows

    public int type(long v, int n) {
        if (n < 0 || n > 8) {
            return NOT_AS_SAID;
        }
        return lexer.addOctets(v, n);
    }

    public int assemble() {
        int fault = assembler.translate();
        if (fault != 0) {
            return -10 - fault;
        }
        rowCount = assembler.count;
        System.arraycopy(assembler.words, 0, row, 0, rowCount);
        return rowCount;
    }

    public int place() {
        return assembler.faultPlace;
    }

    public int feed(int a, int b, int c, int d) {
        if (rowCount + 4 > MAX_ROW) {
            return NO_ROOM;
        }
        row[rowCount] = a;
        row[rowCount + 1] = b;
        row[rowCount + 2] = c;
        row[rowCount + 3] = d;
        rowCount += 4;
        return rowCount;
    }

    public int show(int w) {
        return assembler.describe(w);
    }

    public int shown(int k) {
        return k >= 0 && k < assembler.shownCount ? assembler.shownText[k] : 0;
    }

    public int drop(int n) {
        if (n < 0 || n > rowCount) {
            return NOT_AS_SAID;
        }
        rowCount -= n;
        return rowCount;
    }

    public int word(int i) {
        return i >= 0 && i < rowCount ? row[i] : 0;
    }

    public int keep(int what) {
        if (what < 0 || what > CONFIG) {
            return NONE_SUCH;
        }
        int most = what == LOADER ? MAX_LOADER : what == CONFIG ? MAX_CONFIG : MAX_ROW;
        if (rowCount == 0 || rowCount > most) {
            return NOT_AS_SAID;
        }
        System.arraycopy(row, 0, kept[what], 0, rowCount);
        keptCount[what] = rowCount;
        rowCount = 0;
        return keptCount[what];
    }

    public int safe(int p, int n) {
        if (p < 0 || p >= MAX_PARTITIONS || keptCount[p] == 0) {
            return NONE_SUCH;
        }
        if (n < LEAST_SIZE || n > MAX_ROW || keptCount[p] > n) {
            return NOT_AS_SAID;
        }
        int bad = safeCheck.leastBad(kept[p], keptCount[p], n);
        return bad < 0 ? 1 : -100 - bad;
    }

    // ---- boots and ticks

    public int boot() {
        if (machine.on || keptCount[LOADER] == 0 || keptCount[CONFIG] == 0) {
            return NOT_NOW;
        }
        int fault = spare.read(kept[CONFIG], keptCount[CONFIG]);
        if (fault >= 0) {
            return -100 - fault;
        }
        for (int p = 0; p < spare.partitions; p++) {
            if (keptCount[p] == 0 || keptCount[p] > spare.size[p]) {
                return -20 - p;
            }
        }
        if (boots >= MAX_BOOTS) {
            return NO_ROOM;
        }
        boots++;
        startBoot();
        return machine.config.partitions;
    }

    private void startBoot() {
        Config before = machine.config;
        diskAtBoot.copyFrom(disk);
        machine.begin(spare);
        spare = before;
        Term loader = terms.made(HASH, terms.row(kept[LOADER], keptCount[LOADER]), terms.none, terms.none);
        Term config = terms.made(HASH, terms.row(kept[CONFIG], keptCount[CONFIG]), terms.none, terms.none);
        Term both = terms.made(PAIR, loader, config, terms.none);
        Term base = terms.made(HASH, both, terms.none, terms.none);
        for (int p = 0; p < machine.config.partitions; p++) {
            Partition part = machine.parts[p];
            part.image = terms.row(kept[p], keptCount[p]);
            part.measured = terms.measured(base, p, part.image);
            part.sealKey = terms.made(DERIVED, terms.deviceKey, part.measured, terms.none);
            part.core.load(part.image.words);
        }
        machine.on = true;
    }

    public int off() {
        if (!machine.on) {
            return NOT_NOW;
        }
        machine.on = false;
        return machine.ticks;
    }

    public int cut(int n) {
        if (n < 0 || n > MAX_CUT) {
            return NOT_AS_SAID;
        }
        if (!machine.on) {
            return NOT_NOW;
        }
        machine.writesToCut = n;
        return n;
    }

    public int run(int n) {
        if (n < 0 || n > MAX_RUN) {
            return NOT_AS_SAID;
        }
        if (!machine.on) {
            return NOT_NOW;
        }
        if (machine.ticks + n > MAX_TICKS) {
            return NO_ROOM;
        }
        return machine.runTicks(n);
    }

    public int input(int p, int w) {
        if (!isPartition(p)) {
            return NONE_SUCH;
        }
        if (!machine.on) {
            return NOT_NOW;
        }
        int waiting = machine.parts[p].waitWord(w);
        if (waiting > 0) {
            machine.noteInput(p, w, terms.none);
        }
        return waiting;
    }

    public int inputTerm(int p, int h) {
        if (!isPartition(p) || !outside.has(h)) {
            return NONE_SUCH;
        }
        if (!machine.on) {
            return NOT_NOW;
        }
        Term term = outside.at(h);
        int waiting = machine.parts[p].waitTerm(term);
        if (waiting > 0) {
            machine.noteInput(p, 0, term);
        }
        return waiting;
    }

    public int output(int p, int i, int what) {
        if (!isPartition(p) || i < 0 || i >= machine.parts[p].outCount) {
            return NONE_SUCH;
        }
        if (what < 0 || what > 1) {
            return NOT_AS_SAID;
        }
        Term term = machine.parts[p].outTerm[i];
        if (what == 0) {
            return term == terms.none ? 0 : 1;
        }
        return term == terms.none ? machine.parts[p].outWord[i] : outside.comeIn(term);
    }

    public int state(int p, int what) {
        if (!isPartition(p)) {
            return NONE_SUCH;
        }
        Partition part = machine.parts[p];
        switch (what) {
            case 0:
                return part.core.pc;
            case 1:
                return part.core.halted ? 1 : 0;
            case 2:
                return part.core.cause;
            case 3:
                return part.core.where;
            case 4:
                return part.core.inHandler ? 1 : 0;
            case 5:
                return part.core.handler;
            case 6:
                return part.table.count;
            case 7:
                return part.outCount;
            case 8:
                return part.wordsWaiting;
            case 9:
                return part.termsWaiting;
            case 10:
                return part.seals;
            default:
                return NOT_AS_SAID;
        }
    }

    public int register(int p, int r) {
        return isPartition(p) && r >= 0 && r < 16 ? machine.parts[p].core.registers[r] : 0;
    }

    public int memory(int p, int i) {
        if (!isPartition(p) || i < 0 || i >= machine.parts[p].core.size) {
            return 0;
        }
        return machine.parts[p].core.region[i];
    }

    public int channel(int c, int what) {
        Config config = machine.config;
        if (c < 0 || c >= config.channels) {
            return NONE_SUCH;
        }
        if (what < 0 || what > 20) {
            return NOT_AS_SAID;
        }
        switch (what) {
            case 0:
                return config.from[c];
            case 1:
                return config.to[c];
            case 2:
                return config.length[c];
            case 3:
                return machine.unread[c];
            case 4:
                return machine.sentTerm[c] == terms.none ? 0 : 1;
            default:
                return machine.sent[c][what - 5];
        }
    }

    // ---- the disk and the outside

    public int block(int i, int what) {
        if (i < 0 || i >= Disk.BLOCKS) {
            return NONE_SUCH;
        }
        if (what < 0 || what > 1) {
            return NOT_AS_SAID;
        }
        if (what == 0 || disk.term[i] == terms.none) {
            return disk.version[i];
        }
        return outside.comeIn(disk.term[i]);
    }

    public int put(int i, int version, int h) {
        if (i < 0 || i >= Disk.BLOCKS || h != 0 && !outside.has(h)) {
            return NONE_SUCH;
        }
        if (h != 0 && version < 1) {
            return NOT_AS_SAID;
        }
        if (machine.on) {
            return NOT_NOW;
        }
        if (h == 0) {
            disk.empty(i);
        } else {
            disk.fill(i, version, outside.at(h));
        }
        return 0;
    }

    public int make(int kind, int a, int b, int c) {
        switch (kind) {
            case NUMBER:
                return outside.comeInMade(NUMBER, a, terms.none, terms.none, terms.none);
            case SECRET:
                return outside.isFull() ? NO_ROOM : outside.comeIn(terms.newSecret());
            case HASH:
            case PUBLIC:
                return makeOf(kind, a, a, a);
            case PAIR:
            case KEYED:
            case SIGNED:
            case DERIVED:
                return makeOf(kind, a, b, b);
            case CLOSED:
                return makeOf(kind, a, b, c);
            default:
                return NOT_AS_SAID;
        }
    }

    private int makeOf(int kind, int a, int b, int c) {
        if (!outside.has(a) || !outside.has(b) || !outside.has(c)) {
            return NONE_SUCH;
        }
        Term second = Terms.parts(kind) >= 2 ? outside.at(b) : terms.none;
        Term third = Terms.parts(kind) >= 3 ? outside.at(c) : terms.none;
        return outside.comeInMade(kind, 0, outside.at(a), second, third);
    }

    public int take(int h, int what, int key) {
        if (!outside.has(h) || what == 4 && !outside.has(key)) {
            return NONE_SUCH;
        }
        Term whole = outside.at(h);
        switch (what) {
            case 0:
                return takePart(whole, PAIR, whole.a);
            case 1:
                return takePart(whole, PAIR, whole.b);
            case 2:
                return takePart(whole, SIGNED, whole.b);
            case 3:
                return takePart(whole, CLOSED, whole.b);
            case 4:
                return whole.a == outside.at(key) ? takePart(whole, CLOSED, whole.c) : NOT_NOW;
            default:
                return NOT_AS_SAID;
        }
    }

    private int takePart(Term whole, int kind, Term part) {
        return whole.kind == kind ? outside.comeIn(part) : NOT_NOW;
    }

    public int kind(int h) {
        return outside.has(h) ? outside.at(h).kind : NONE_SUCH;
    }

    public int number(int h) {
        return outside.at(h).kind == NUMBER ? outside.at(h).number : 0;
    }

    public int measure(int p) {
        return isPartition(p) ? outside.comeIn(machine.parts[p].measured) : NONE_SUCH;
    }

    // ---- what is judged

    public int knows(int p, int h) {
        Term term = termOf(p, h);
        if (term == terms.none) {
            return NONE_SUCH;
        }
        return terms.roundOf(term) < 0 ? 0 : 1;
    }

    public int far(int p, int h) {
        Term term = termOf(p, h);
        if (term == terms.none) {
            return NONE_SUCH;
        }
        int round = terms.roundOf(term);
        return round < 0 ? NOT_NOW : round;
    }

    public int same(int p, int h, int q, int g) {
        Term first = termOf(p, h);
        Term second = termOf(q, g);
        if (first == terms.none || second == terms.none) {
            return NONE_SUCH;
        }
        return first == second ? 1 : 0;
    }

    public int flows(int q, int p) {
        if (!isPartition(q) || !isPartition(p)) {
            return NONE_SUCH;
        }
        return machine.config.flowingTo(p) >> q & 1;
    }

    public int purge(int p) {
        if (!isPartition(p)) {
            return NONE_SUCH;
        }
        if (machine.inputs > Machine.MAX_INPUTS) {
            return NO_ROOM;
        }
        again.repeat(machine, diskAtBoot, machine.config.flowingTo(p));
        return again.parts[p].isLike(machine.parts[p]) ? 1 : 0;
    }

    public int told(int what) {
        switch (what) {
            case 0:
                return machine.on ? 1 : 0;
            case 1:
                return boots;
            case 2:
                return machine.ticks;
            case 3:
                return machine.config.partitions;
            case 4:
                return machine.config.channels;
            case 5:
                return machine.writes;
            case 6:
                return outside.count;
            case 7:
                return rowCount;
            case 8:
                return lexer.length;
            default:
                return NOT_AS_SAID;
        }
    }

    private boolean isPartition(int p) {
        return p >= 0 && p < machine.config.partitions;
    }

    /** The TERM of a HANDLE of a partition, or (p = -1) of the OUTSIDE; the none TERM if there is none such. */
    private Term termOf(int p, int h) {
        if (p == -1) {
            return outside.at(h);
        }
        return isPartition(p) ? machine.parts[p].table.at(h) : terms.none;
    }

    /** THE TEXT, and its tokens. */
    private static final class Lexer {
        static final int END = 0;
        static final int LINE_END = 1;
        static final int NAME = 2;
        static final int FIGURES = 3;
        static final int COMMA = 4;
        static final int COLON = 5;
        static final int MINUS = 6;
        static final int BAD = 7;
        static final int MAX_TEXT = 6000;
        private static final int MAX_NAME = 8;
        private static final int MAX_FIGURES = 10;
        private static final int MAX_HEX_FIGURES = 8;

        private final char[] text = new char[MAX_TEXT];
        int length;
        private int at;
        /** The tokens in order: the last one is an END, or the first BAD one. */
        final int[] kinds = new int[MAX_TEXT + 1];
        final int[] places = new int[MAX_TEXT + 1];
        /** What FIGURES are worth; the octets of a NAME, which has 8 at most, so that one long holds it whole. */
        final long[] values = new long[MAX_TEXT + 1];
        int count;

        int addOctets(long v, int n) {
            if (n == 0) {
                length = 0;
            }
            if (length + n > MAX_TEXT) {
                return NO_ROOM;
            }
            for (int i = n - 1; i >= 0; i--) {
                text[length] = (char) (v >>> 8 * i & 255);
                length++;
            }
            return length;
        }

        void readTokens() {
            at = 0;
            count = 0;
            boolean more = true;
            for (int i = 0; i <= MAX_TEXT && more; i++) {
                passOver();
                readToken();
                more = kinds[i] != END && kinds[i] != BAD;
            }
        }

        private void passOver() {
            boolean remark = false;
            for (; at < length; at++) {
                char c = text[at];
                if (c == ';') {
                    remark = true;
                }
                boolean blank = c == ' ' || c == 9 || c == 13;
                if (c == 10 || !remark && !blank) {
                    return;
                }
            }
        }

        private void readToken() {
            places[count] = at;
            if (at >= length) {
                kinds[count] = END;
            } else if (isLetter(text[at])) {
                readName();
            } else if (figure(text[at], 10) >= 0) {
                readNumber();
            } else {
                kinds[count] = signOf(text[at]);
                at++;
            }
            count++;
        }

        private void readName() {
            int first = at;
            long name = 0;
            for (; at < length && (isLetter(text[at]) || figure(text[at], 10) >= 0); at++) {
                name = name << 8 | text[at];
            }
            values[count] = name;
            kinds[count] = at - first > MAX_NAME ? BAD : NAME;
        }

        private void readNumber() {
            boolean hex = at + 2 < length && text[at] == '0' && text[at + 1] == 'x' && figure(text[at + 2], 16) >= 0;
            int base = hex ? 16 : 10;
            int first = hex ? at + 2 : at;
            long value = 0;
            for (at = first; at < length && figure(text[at], base) >= 0; at++) {
                value = value * base + figure(text[at], base);
            }
            values[count] = value;
            kinds[count] = at - first > (hex ? MAX_HEX_FIGURES : MAX_FIGURES) ? BAD : FIGURES;
        }

        private static int signOf(char c) {
            if (c == 10) {
                return LINE_END;
            }
            if (c == ',') {
                return COMMA;
            }
            if (c == ':') {
                return COLON;
            }
            return c == '-' ? MINUS : BAD;
        }

        private static boolean isLetter(char c) {
            return c >= 'a' && c <= 'z';
        }

        /** What a figure is worth to a base of 10 or 16; below 0 if it is none. */
        private static int figure(char c, int base) {
            if (c >= '0' && c <= '9') {
                return c - '0';
            }
            return base == 16 && c >= 'a' && c <= 'f' ? c - 'a' + 10 : -1;
        }
    }

    /** Makes words of statements, and shows the statements of words. */
    private static final class Assembler {
        private static final int NAME_WIDTH = 6;
        /** The name of op i stands at (i - 1) * NAME_WIDTH. */
        private static final String NAMES = "add   sub   and   or    xor   shl   shr   sar   less  below mul   addi  andi  ori   xori  shli  shri  sari  lessi belowihigh  ldw   ldh   ldhu  ldo   ldou  stw   sth   sto   beq   bne   blt   bge   bltu  bgeu  jump  jumpr ask   back  word  room  ";
        private static final int MAX_LABELS = 200;

        private static final int NO_TOKEN = 1;
        private static final int MISPLACED = 2;
        private static final int UNKNOWN_NAME = 3;
        private static final int TOLD_ALREADY = 4;
        private static final int OUT_OF_BOUNDS = 5;
        private static final int TOO_MANY = 6;
        private static final int NOT_TOLD = 7;

        private final Lexer lexer;
        private final long[] names = new long[OP_ROOM + 1];
        private int at;
        final int[] words = new int[MAX_ROW];
        int count;
        private final long[] labels = new long[MAX_LABELS];
        private final int[] labelWords = new int[MAX_LABELS];
        private int labelCount;
        private final long[] useNames = new long[MAX_ROW];
        private final int[] useWords = new int[MAX_ROW];
        private final int[] usePlaces = new int[MAX_ROW];
        private int useCount;
        private int fault;
        int faultPlace = -1;
        final char[] shownText = new char[40];
        int shownCount;

        Assembler(Lexer lexer) {
            this.lexer = lexer;
            for (int op = 1; op <= OP_ROOM; op++) {
                for (int i = 0; i < NAME_WIDTH && nameOctet(op, i) != ' '; i++) {
                    names[op] = names[op] << 8 | nameOctet(op, i);
                }
            }
        }

        private static char nameOctet(int op, int i) {
            return NAMES.charAt((op - 1) * NAME_WIDTH + i);
        }

        /** ASSEMBLING: the FAULT, 0 without one. THE TEXT is empty then. */
        int translate() {
            count = 0;
            labelCount = 0;
            useCount = 0;
            fault = 0;
            faultPlace = -1;
            at = 0;
            lexer.readTokens();
            for (int i = 0; i <= Lexer.MAX_TEXT && fault == 0 && token() != Lexer.END; i++) {
                readLine();
            }
            for (int i = 0; i < useCount && fault == 0; i++) {
                settleUse(i);
            }
            lexer.length = 0;
            return fault;
        }

        private int token() {
            return lexer.kinds[at];
        }

        private void advance() {
            if (at + 1 < lexer.count) {
                at++;
            }
        }

        /** The tokens are looked at in the text's order, so the first fault that is met is the one that counts. */
        private void fail(int number, int place) {
            if (fault == 0) {
                fault = number;
                faultPlace = place;
            }
        }

        private void failAtToken() {
            fail(token() == Lexer.BAD ? NO_TOKEN : MISPLACED, lexer.places[at]);
        }

        private void readLine() {
            boolean labelled = at + 1 < lexer.count && lexer.kinds[at + 1] == Lexer.COLON;
            if (token() == Lexer.NAME && labelled) {
                tellLabel(lexer.values[at], lexer.places[at]);
                advance();
                advance();
            }
            if (token() == Lexer.NAME && fault == 0) {
                long name = lexer.values[at];
                int place = lexer.places[at];
                advance();
                readStatement(name, place);
            }
            if (token() == Lexer.LINE_END) {
                advance();
            } else if (token() != Lexer.END) {
                failAtToken();
            }
        }

        private void tellLabel(long name, int place) {
            if (labelOf(name) >= 0) {
                fail(TOLD_ALREADY, place);
            } else if (labelCount >= MAX_LABELS) {
                fail(TOO_MANY, place);
            } else {
                labels[labelCount] = name;
                labelWords[labelCount] = count;
                labelCount++;
            }
        }

        private int labelOf(long name) {
            for (int i = 0; i < labelCount; i++) {
                if (labels[i] == name) {
                    return i;
                }
            }
            return -1;
        }

        private void readStatement(long name, int place) {
            int op = opOf(name);
            if (op == 0) {
                fail(UNKNOWN_NAME, place);
            } else if (op == OP_ROOM) {
                makeRoom((int) readValue(op), place);
            } else if (count >= MAX_ROW) {
                fail(TOO_MANY, place);
            } else {
                int made = op == OP_WORD ? (int) readValue(op) : readInstruction(op);
                if (fault == 0) {
                    words[count] = made;
                    count++;
                }
            }
        }

        private int opOf(long name) {
            for (int op = 1; op <= OP_ROOM; op++) {
                if (names[op] == name) {
                    return op;
                }
            }
            return 0;
        }

        private void makeRoom(int n, int place) {
            if (fault != 0) {
                return;
            }
            if (n < 0 || count + n > MAX_ROW) {
                fail(TOO_MANY, place);
                return;
            }
            Arrays.fill(words, count, count + n, 0);
            count += n;
        }

        private int readInstruction(int op) {
            int made = op << 26;
            if (hasD(op)) {
                made |= readRegister() << 22;
            }
            if (hasA(op)) {
                readComma();
                made |= readRegister() << 18;
            }
            if (hasB(op)) {
                readComma();
                made |= readRegister() << 14;
            }
            if (hasM(op)) {
                if (hasD(op)) {
                    readComma();
                }
                made |= (int) readValue(op) & M_BITS;
            }
            return made;
        }

        private static boolean hasD(int op) {
            return op >= 1 && op <= OP_JUMPR;
        }

        private static boolean hasA(int op) {
            return hasD(op) && op != OP_HIGH && op != OP_JUMP;
        }

        private static boolean hasB(int op) {
            return op >= 1 && op <= 11;
        }

        private static boolean hasM(int op) {
            return op >= 12 && op <= OP_ASK;
        }

        private static boolean takesLabel(int op) {
            return op >= 30 && op <= OP_JUMP || op == OP_WORD;
        }

        private void readComma() {
            if (fault != 0) {
                return;
            }
            if (token() == Lexer.COMMA) {
                advance();
            } else {
                failAtToken();
            }
        }

        private int readRegister() {
            if (fault != 0) {
                return 0;
            }
            if (token() != Lexer.NAME) {
                failAtToken();
                return 0;
            }
            int register = registerOf(lexer.values[at]);
            if (register < 0) {
                fail(UNKNOWN_NAME, lexer.places[at]);
                return 0;
            }
            advance();
            return register;
        }

        private static int registerOf(long name) {
            int last = (int) (name & 255) - '0';
            if (name >>> 8 == 'r' && last >= 0 && last <= 9) {
                return last;
            }
            boolean two = name >>> 16 == 'r' && (name >>> 8 & 255) == '1';
            return two && last >= 0 && last <= 5 ? 10 + last : -1;
        }

        /** N, or (where it may stand) a label, which is worth 0 until all labels are told. */
        private long readValue(int op) {
            if (fault != 0) {
                return 0;
            }
            if (token() == Lexer.NAME && takesLabel(op)) {
                noteUse();
                advance();
                return 0;
            }
            boolean minus = token() == Lexer.MINUS;
            if (minus) {
                advance();
            }
            if (token() != Lexer.FIGURES) {
                failAtToken();
                return 0;
            }
            long n = minus ? -lexer.values[at] : lexer.values[at];
            if (n < least(op) || n > most(op)) {
                fail(OUT_OF_BOUNDS, lexer.places[at]);
                return 0;
            }
            advance();
            return n;
        }

        private static long least(int op) {
            switch (op) {
                case OP_HIGH:
                case OP_ASK:
                    return 0;
                case OP_WORD:
                    return -2147483648L;
                case OP_ROOM:
                    return 1;
                default:
                    return -131072;
            }
        }

        private static long most(int op) {
            switch (op) {
                case OP_HIGH:
                    return M_BITS;
                case OP_WORD:
                    return 4294967295L;
                case OP_ROOM:
                    return MAX_ROW;
                default:
                    return 131071;
            }
        }

        private void noteUse() {
            if (useCount < MAX_ROW) {
                useNames[useCount] = lexer.values[at];
                useWords[useCount] = count;
                usePlaces[useCount] = lexer.places[at];
                useCount++;
            }
        }

        private void settleUse(int i) {
            int label = labelOf(useNames[i]);
            if (label < 0) {
                fail(NOT_TOLD, usePlaces[i]);
                return;
            }
            int user = useWords[i];
            int target = labelWords[label];
            // The statement word left a 0 here; what takes a label besides it has an op.
            if (words[user] == 0) {
                words[user] = 4 * target;
            } else {
                words[user] |= target - user & M_BITS;
            }
        }

        /** SHOWING a word: how many octets its text has. */
        int describe(int w) {
            shownCount = 0;
            int op = w >>> 26;
            if (!isMadeBy(op, w)) {
                showName(OP_WORD);
                showText(" ");
                showNumber(w);
                return shownCount;
            }
            showName(op);
            if (hasD(op)) {
                showRegister(" r", w >>> 22 & 15);
            }
            if (hasA(op)) {
                showRegister(", r", w >>> 18 & 15);
            }
            if (hasB(op)) {
                showRegister(", r", w >>> 14 & 15);
            }
            if (hasM(op)) {
                showText(hasD(op) ? ", " : " ");
                showNumber(op == OP_HIGH ? w & M_BITS : w << 14 >> 14);
            }
            return shownCount;
        }

        /** Whether a statement makes the word: no bit stands but in its operands, within their bounds. */
        private static boolean isMadeBy(int op, int w) {
            if (op < 1 || op > OP_BACK) {
                return false;
            }
            int operands = hasD(op) ? 15 << 22 : 0;
            operands |= hasA(op) ? 15 << 18 : 0;
            operands |= hasB(op) ? 15 << 14 : 0;
            operands |= hasM(op) ? M_BITS : 0;
            if (op == OP_ASK) {
                operands = M_BITS >> 1;
            }
            return (w & 0x3FFFFFF & ~operands) == 0;
        }

        private void showName(int op) {
            for (int i = 0; i < NAME_WIDTH && nameOctet(op, i) != ' '; i++) {
                showOctet(nameOctet(op, i));
            }
        }

        private void showRegister(String before, int register) {
            showText(before);
            showNumber(register);
        }

        private void showText(String text) {
            for (int i = 0; i < text.length(); i++) {
                showOctet(text.charAt(i));
            }
        }

        private void showNumber(int n) {
            long left = n;
            if (left < 0) {
                showOctet('-');
                left = -left;
            }
            long unit = 1;
            for (int i = 0; i < 10 && unit * 10 <= left; i++) {
                unit *= 10;
            }
            for (; unit > 0; unit /= 10) {
                showOctet((char) ('0' + left / unit % 10));
            }
        }

        private void showOctet(char c) {
            if (shownCount < shownText.length) {
                shownText[shownCount] = c;
                shownCount++;
            }
        }
    }

    /** Decides whether an image is SAFE. */
    private static final class SafeCheck {
        private static final int NO_PLACE = Integer.MAX_VALUE;

        private final int[] reached = new int[MAX_ROW];
        private final int[] open = new int[MAX_ROW];
        private int openCount;
        private int length;
        private int least;

        /** The least REACHED place that is BAD for n words, one below 0 being 0; -1 without one. */
        int leastBad(int[] image, int imageLength, int n) {
            length = imageLength;
            least = NO_PLACE;
            openCount = 0;
            Arrays.fill(reached, 0);
            reach(0);
            for (int i = 0; i < MAX_ROW && openCount > 0; i++) {
                openCount--;
                follow(open[openCount], image);
            }
            for (int place = 0; place < length && place < least; place++) {
                if (reached[place] == 1 && isBad(image[place], n)) {
                    least = place;
                }
            }
            return least == NO_PLACE ? -1 : least;
        }

        /** A place where the image has no word is BAD, and leads nowhere. */
        private void reach(int place) {
            if (place < 0 || place >= length) {
                least = Math.min(least, Math.max(place, 0));
            } else if (reached[place] == 0) {
                reached[place] = 1;
                open[openCount] = place;
                openCount++;
            }
        }

        private void follow(int place, int[] image) {
            int op = image[place] >>> 26;
            int target = place + (image[place] << 14 >> 14);
            if (op != OP_JUMP) {
                reach(place + 1);
            }
            if (op >= 30 && op <= OP_JUMP) {
                reach(target);
            }
        }

        private boolean isBad(int w, int n) {
            int op = w >>> 26;
            int m = w << 14 >> 14;
            if (op == OP_ASK) {
                return m < 0 || m > LAST_ASK || m == 1 || m == 8;
            }
            if (op < 1 || op > OP_JUMP) {
                return true;
            }
            if (!Core.isMemoryOp(op)) {
                return false;
            }
            boolean astray = (w >>> 18 & 15) != 0 || m < 0 || m >= 4 * n || (m & Core.width(op) - 1) != 0;
            return astray || Core.isStore(op) && m >> 2 < length && reached[m >> 2] == 1;
        }
    }

    /** A TERM; one that is the same as another is the same object. Chains end with null. */
    private static final class Term {
        private static final int[] NO_WORDS = {};

        final int kind;
        /** The w of a NUMBER, the name of a SECRET, a hash of a ROW's words. */
        final int number;
        final int serial;
        /** The parts in the document's order: what a kind lacks is the none TERM. */
        Term a;
        Term b;
        Term c;
        int[] words = NO_WORDS;
        Term nextInBucket;
        final Term older;
        /** Whether ROUND 0 has it by having been told to the OUTSIDE. */
        boolean told;
        int round;
        Term nextInQueue;
        /** The TERMS that have this one as a part, chained by the field of the first such part. */
        Term firstUser;
        Term nextUserOfA;
        Term nextUserOfB;
        Term nextUserOfC;

        Term(int kind, int number, int serial, Term older) {
            this.kind = kind;
            this.number = number;
            this.serial = serial;
            this.older = older;
        }

        Term nextUserOf(Term part) {
            if (part == a) {
                return nextUserOfA;
            }
            return part == b ? nextUserOfB : nextUserOfC;
        }
    }

    /** All TERMS that there are, and which of them are KNOWN. */
    private static final class Terms {
        private static final int BUCKETS = 4096;

        private final Term[] buckets = new Term[BUCKETS];
        private Term newest;
        private int count;
        private int secrets;
        final Term none;
        final Term deviceKey;
        final Term quoteKey;
        final Term quotePublic;
        private boolean judged;
        private Term firstInQueue;
        private Term lastInQueue;

        Terms() {
            none = new Term(-1, 0, 0, null);
            none.a = none;
            none.b = none;
            none.c = none;
            deviceKey = newSecret();
            quoteKey = made(DERIVED, deviceKey, numberTerm(1), none);
            quotePublic = made(PUBLIC, quoteKey, none, none);
            tell(quotePublic);
        }

        static int parts(int kind) {
            switch (kind) {
                case HASH:
                case PUBLIC:
                    return 1;
                case PAIR:
                case KEYED:
                case SIGNED:
                case DERIVED:
                    return 2;
                case CLOSED:
                    return 3;
                default:
                    return 0;
            }
        }

        private static int bucketOf(int kind, int number, Term a, Term b, Term c) {
            int mixed = kind + 31 * number;
            mixed = mixed * 31 + a.serial;
            mixed = mixed * 31 + b.serial;
            mixed = mixed * 31 + c.serial;
            return mixed * 0x9E3779B1 >>> 20;
        }

        /** The TERM of this kind and these parts, or the none TERM if there was none yet. */
        Term find(int kind, int number, Term a, Term b, Term c) {
            Term term = buckets[bucketOf(kind, number, a, b, c)];
            for (; term != null; term = term.nextInBucket) {
                if (term.kind == kind && term.number == number && term.a == a && term.b == b && term.c == c) {
                    return term;
                }
            }
            return none;
        }

        Term add(int kind, int number, Term a, Term b, Term c) {
            count++;
            Term term = new Term(kind, number, count, newest);
            newest = term;
            term.a = a;
            term.b = b;
            term.c = c;
            int bucket = bucketOf(kind, number, a, b, c);
            term.nextInBucket = buckets[bucket];
            buckets[bucket] = term;
            noteUser(term);
            judged = false;
            return term;
        }

        private void noteUser(Term term) {
            term.nextUserOfA = term.a.firstUser;
            term.a.firstUser = term;
            if (term.b != term.a) {
                term.nextUserOfB = term.b.firstUser;
                term.b.firstUser = term;
            }
            if (term.c != term.a && term.c != term.b) {
                term.nextUserOfC = term.c.firstUser;
                term.c.firstUser = term;
            }
        }

        Term made(int kind, Term a, Term b, Term c) {
            Term term = find(kind, 0, a, b, c);
            return term != none ? term : add(kind, 0, a, b, c);
        }

        Term numberTerm(int w) {
            Term term = find(NUMBER, w, none, none, none);
            return term != none ? term : add(NUMBER, w, none, none, none);
        }

        Term newSecret() {
            Term term = add(SECRET, secrets, none, none, none);
            secrets++;
            return term;
        }

        Term row(int[] words, int length) {
            int mixed = length;
            for (int i = 0; i < length; i++) {
                mixed = mixed * 31 + words[i];
            }
            Term term = buckets[bucketOf(ROW, mixed, none, none, none)];
            for (; term != null; term = term.nextInBucket) {
                if (term.kind == ROW && term.number == mixed && hasWords(term, words, length)) {
                    return term;
                }
            }
            Term fresh = add(ROW, mixed, none, none, none);
            fresh.words = Arrays.copyOf(words, length);
            return fresh;
        }

        private static boolean hasWords(Term term, int[] words, int length) {
            if (term.words.length != length) {
                return false;
            }
            for (int i = 0; i < length; i++) {
                if (term.words[i] != words[i]) {
                    return false;
                }
            }
            return true;
        }

        /** R(p), base being HASH(PAIR(L, C)). */
        Term measured(Term base, int p, Term image) {
            Term imageHash = made(HASH, image, none, none);
            Term numbered = made(PAIR, numberTerm(p), imageHash, none);
            return made(HASH, made(PAIR, base, numbered, none), none, none);
        }

        void tell(Term term) {
            if (!term.told) {
                term.told = true;
                judged = false;
            }
        }

        /** The least ROUND that has the TERM; below 0 if it is not KNOWN. */
        int roundOf(Term term) {
            if (!judged) {
                judge();
                judged = true;
            }
            return term.round;
        }

        /**
         * What a ROUND takes apart was told or came of what was told, and a part of a KNOWN TERM
         * that was put together was KNOWN before; so no TERMS but those that there are matter.
         */
        private void judge() {
            firstInQueue = null;
            lastInQueue = null;
            for (Term term = newest; term != null; term = term.older) {
                term.round = -1;
                term.nextInQueue = null;
            }
            for (Term term = newest; term != null; term = term.older) {
                if (term.told || term.kind == NUMBER || term.kind == ROW) {
                    learn(term, 0);
                }
            }
            Term next = firstInQueue;
            for (int i = 0; i < count && next != null; i++) {
                takeApart(next);
                putTogether(next);
                next = next.nextInQueue;
            }
        }

        /** Each TERM is queued once, and the queue's rounds never fall. */
        private void learn(Term term, int round) {
            if (term == none || term.round >= 0) {
                return;
            }
            term.round = round;
            if (lastInQueue == null) {
                firstInQueue = term;
            } else {
                lastInQueue.nextInQueue = term;
            }
            lastInQueue = term;
        }

        private void takeApart(Term term) {
            int next = term.round + 1;
            if (term.kind == PAIR) {
                learn(term.a, next);
                learn(term.b, next);
            } else if (term.kind == SIGNED) {
                learn(term.b, next);
            } else if (term.kind == CLOSED) {
                learn(term.b, next);
                if (isHad(term.a, term.round)) {
                    learn(term.c, next);
                }
            }
        }

        private void putTogether(Term part) {
            int round = part.round;
            for (Term user = part.firstUser; user != null; user = user.nextUserOf(part)) {
                if (isHad(user.a, round) && isHad(user.b, round) && isHad(user.c, round)) {
                    learn(user, round + 1);
                }
                if (user.kind == CLOSED && user.a == part && isHad(user, round)) {
                    learn(user.c, round + 1);
                }
            }
        }

        private boolean isHad(Term term, int round) {
            return term == none || term.round >= 0 && term.round <= round;
        }
    }

    /** A TABLE: HANDLES, from 1 on, of TERMS. */
    private static final class Table {
        private final Terms terms;
        private final int limit;
        private final boolean outside;
        private final Term[] held;
        /** HANDLES by their TERMS' serials, 0 being free; some are always free. */
        private final int[] slots;
        int count;

        /** slotCount is a power of two above the limit. */
        Table(Terms terms, int limit, int slotCount, boolean outside) {
            this.terms = terms;
            this.limit = limit;
            this.outside = outside;
            held = new Term[limit + 1];
            slots = new int[slotCount];
        }

        void clear() {
            count = 0;
            Arrays.fill(slots, 0);
        }

        boolean has(int h) {
            return h >= 1 && h <= count;
        }

        boolean isFull() {
            return count >= limit;
        }

        Term at(int h) {
            return has(h) ? held[h] : terms.none;
        }

        int comeIn(Term term) {
            int slot = slotOf(term);
            if (slots[slot] != 0) {
                return slots[slot];
            }
            if (isFull()) {
                return NO_ROOM;
            }
            count++;
            held[count] = term;
            slots[slot] = count;
            if (outside) {
                terms.tell(term);
            }
            return count;
        }

        /** Where the TERM's HANDLE stands, or would stand. */
        private int slotOf(Term term) {
            int slot = term.serial & slots.length - 1;
            for (int i = 0; i < slots.length; i++) {
                if (slots[slot] == 0 || held[slots[slot]] == term) {
                    return slot;
                }
                slot = slot + 1 & slots.length - 1;
            }
            return slot;
        }

        /** A TERM that there was not yet is made only if the TABLE has room, so that none is made in vain. */
        int comeInMade(int kind, int number, Term a, Term b, Term c) {
            Term term = terms.find(kind, number, a, b, c);
            if (term == terms.none) {
                if (isFull()) {
                    return NO_ROOM;
                }
                term = terms.add(kind, number, a, b, c);
            }
            return comeIn(term);
        }
    }

    /** THE CONFIG as it was read. */
    private static final class Config {
        private static final int MAX_BASE = 8176;
        private static final int ALL_WORDS = 8192;
        private static final int MAX_AREA = 8;
        private static final int ALL_AREAS = 32;
        private static final int MAX_CHANNELS = 16;
        private static final int MAX_LENGTH = 16;
        private static final int MAX_SLOTS = 32;
        private static final int MAX_STEPS = 1000;
        private static final int NOBODY = 255;

        int partitions;
        private final int[] base = new int[MAX_PARTITIONS];
        final int[] size = new int[MAX_PARTITIONS];
        final int[] area = new int[MAX_PARTITIONS];
        /** The AREAS before a partition's together. */
        final int[] areaStart = new int[MAX_PARTITIONS];
        int channels;
        final int[] from = new int[MAX_CHANNELS];
        final int[] to = new int[MAX_CHANNELS];
        final int[] length = new int[MAX_CHANNELS];
        int slots;
        final int[] who = new int[MAX_SLOTS];
        final int[] steps = new int[MAX_SLOTS];
        private int[] words = {};
        private int wordCount;
        private int at;
        private int fault;

        /** Reads a row: the place of its FAULT, -1 without one. */
        int read(int[] row, int rowLength) {
            words = row;
            wordCount = Math.min(rowLength, row.length);
            at = 0;
            fault = -1;
            partitions = nextWord(1, MAX_PARTITIONS);
            int areas = 0;
            for (int p = 0; p < partitions && fault < 0; p++) {
                areaStart[p] = areas;
                readPartition(p, areas);
                areas += area[p];
            }
            channels = nextWord(0, MAX_CHANNELS);
            for (int c = 0; c < channels && fault < 0; c++) {
                readChannel(c);
            }
            slots = nextWord(1, MAX_SLOTS);
            for (int s = 0; s < slots && fault < 0; s++) {
                who[s] = nextOwner();
                steps[s] = nextWord(1, MAX_STEPS);
            }
            if (fault < 0 && at < wordCount) {
                fault = at;
            }
            return fault;
        }

        private int nextWord(int low, int high) {
            if (fault >= 0) {
                return low;
            }
            if (at >= wordCount || words[at] < low || words[at] > high) {
                fault = at;
                return low;
            }
            at++;
            return words[at - 1];
        }

        private void refuseLast() {
            if (fault < 0) {
                fault = at - 1;
            }
        }

        private void readPartition(int p, int areas) {
            base[p] = nextWord(0, MAX_BASE);
            size[p] = nextWord(LEAST_SIZE, Math.min(MAX_ROW, ALL_WORDS - base[p]));
            for (int q = 0; q < p; q++) {
                if (base[p] < base[q] + size[q] && base[q] < base[p] + size[p]) {
                    refuseLast();
                }
            }
            area[p] = nextWord(0, Math.min(MAX_AREA, ALL_AREAS - areas));
        }

        private void readChannel(int c) {
            from[c] = nextWord(0, partitions - 1);
            to[c] = nextWord(0, partitions - 1);
            if (to[c] == from[c]) {
                refuseLast();
            }
            length[c] = nextWord(1, MAX_LENGTH);
        }

        private int nextOwner() {
            boolean nobody = at < wordCount && words[at] == NOBODY;
            return nobody ? nextWord(NOBODY, NOBODY) : nextWord(0, partitions - 1);
        }

        /** The partitions that FLOW to p, bit q telling it of q. */
        int flowingTo(int p) {
            int flowing = 1 << p;
            for (int round = 0; round < partitions; round++) {
                for (int c = 0; c < channels; c++) {
                    if ((flowing >> to[c] & 1) == 1) {
                        flowing |= 1 << from[c];
                    }
                }
            }
            return flowing;
        }
    }

    /** Registers, a REGION and what runs in it. */
    private static final class Core {
        private static final int BAD_INSTRUCTION = 1;
        private static final int NOT_IN_REGION = 2;
        private static final int NOT_EVEN = 3;
        private static final int BAD_PC = 4;

        final int[] region = new int[MAX_ROW];
        final int[] registers = new int[16];
        int size;
        int pc;
        int handler;
        int cause;
        int where;
        boolean halted;
        boolean inHandler;

        void reset(int newSize) {
            size = newSize;
            Arrays.fill(region, 0);
            Arrays.fill(registers, 0);
            pc = 0;
            handler = 0;
            cause = 0;
            where = 0;
            halted = false;
            inHandler = false;
        }

        void load(int[] image) {
            System.arraycopy(image, 0, region, 0, Math.min(image.length, MAX_ROW));
        }

        static boolean isMemoryOp(int op) {
            return op >= 22 && op <= 29;
        }

        static boolean isStore(int op) {
            return op >= 27 && op <= 29;
        }

        /** How many octets an op of 22 to 29 loads or stores. */
        static int width(int op) {
            if (op == 22 || op == 27) {
                return 4;
            }
            return op == 23 || op == 24 || op == 28 ? 2 : 1;
        }

        /** Does an instruction, or has a TRAP: -1; or the number of an ask, of which nothing is done yet. */
        int step() {
            if (pc < 0 || pc >= 4 * size || (pc & 3) != 0) {
                trap(BAD_PC);
                return -1;
            }
            int w = region[pc >> 2];
            int op = w >>> 26;
            int m = w << 14 >> 14;
            if (op == OP_ASK && m >= 0 && m <= LAST_ASK) {
                return m;
            }
            if (op >= 1 && op <= OP_HIGH) {
                reckon(w, op, m);
            } else if (isMemoryOp(op)) {
                access(op, w >>> 22 & 15, registers[w >>> 18 & 15] + m);
            } else if (op >= 30 && op <= 35) {
                boolean goes = compare(op, registers[w >>> 22 & 15], registers[w >>> 18 & 15]);
                pc += goes ? 4 * m : 4;
            } else {
                leap(w, op, m);
            }
            return -1;
        }

        private void trap(int kind) {
            cause = kind;
            where = pc;
            if (handler == 0 || inHandler) {
                halted = true;
            } else {
                pc = handler;
                inHandler = true;
            }
        }

        private void write(int register, int value) {
            if (register != 0) {
                registers[register] = value;
            }
        }

        private void reckon(int w, int op, int m) {
            int x = registers[w >>> 18 & 15];
            int y = op <= 11 ? registers[w >>> 14 & 15] : m;
            write(w >>> 22 & 15, op == OP_HIGH ? (w & M_BITS) << 14 : result(op, x, y));
            pc += 4;
        }

        private static int result(int op, int x, int y) {
            switch (op) {
                case 1:
                case 12:
                    return x + y;
                case 2:
                    return x - y;
                case 3:
                case 13:
                    return x & y;
                case 4:
                case 14:
                    return x | y;
                case 5:
                case 15:
                    return x ^ y;
                case 6:
                case 16:
                    return x << (y & 31);
                case 7:
                case 17:
                    return x >>> (y & 31);
                case 8:
                case 18:
                    return x >> (y & 31);
                case 9:
                case 19:
                    return x < y ? 1 : 0;
                case 10:
                case 20:
                    return isBelow(x, y) ? 1 : 0;
                default:
                    return x * y;
            }
        }

        private static boolean isBelow(int x, int y) {
            return x + Integer.MIN_VALUE < y + Integer.MIN_VALUE;
        }

        private static boolean compare(int op, int x, int y) {
            switch (op) {
                case 30:
                    return x == y;
                case 31:
                    return x != y;
                case 32:
                    return x < y;
                case 33:
                    return x >= y;
                case 34:
                    return isBelow(x, y);
                default:
                    return !isBelow(x, y);
            }
        }

        private void access(int op, int d, int address) {
            if ((address & width(op) - 1) != 0) {
                trap(NOT_EVEN);
                return;
            }
            if (address < 0 || address >= 4 * size) {
                trap(NOT_IN_REGION);
                return;
            }
            int place = address >> 2;
            int shift = 8 * (address & 3);
            if (isStore(op)) {
                int mask = (op == 27 ? -1 : op == 28 ? 0xFFFF : 0xFF) << shift;
                region[place] = region[place] & ~mask | registers[d] << shift & mask;
            } else {
                write(d, loaded(op, region[place] >>> shift));
            }
            pc += 4;
        }

        private static int loaded(int op, int bits) {
            switch (op) {
                case 22:
                    return bits;
                case 23:
                    return (short) bits;
                case 24:
                    return bits & 0xFFFF;
                case 25:
                    return (byte) bits;
                default:
                    return bits & 0xFF;
            }
        }

        private void leap(int w, int op, int m) {
            int before = pc;
            if (op == OP_JUMP) {
                pc += 4 * m;
                write(w >>> 22 & 15, before + 4);
            } else if (op == OP_JUMPR) {
                pc = registers[w >>> 18 & 15] + m;
                write(w >>> 22 & 15, before + 4);
            } else if (op == OP_BACK && inHandler) {
                pc = where + 4;
                inHandler = false;
            } else {
                trap(BAD_INSTRUCTION);
            }
        }

        int setHandler(int place) {
            if (place < 0 || place > 4 * size - 4 || (place & 3) != 0) {
                return NOT_AS_SAID;
            }
            handler = place;
            return 0;
        }

        /** Whether so many words from an ADDRESS on are words of the REGION. */
        boolean holds(int address, int words) {
            return (address & 3) == 0 && address >= 0 && address <= 4 * (size - words);
        }
    }

    /** A partition: its core, and what the monitor holds for it. */
    private static final class Partition {
        private static final int MAX_TABLE = 100;
        private static final int MAX_OUTPUTS = 200;
        private static final int MAX_WAITING = 64;

        private final Terms terms;
        final Core core = new Core();
        final Table table;
        final int index;
        final int[] outWord = new int[MAX_OUTPUTS];
        /** The none TERM where a word went out. */
        final Term[] outTerm = new Term[MAX_OUTPUTS];
        int outCount;
        private final int[] waitingWords = new int[MAX_WAITING];
        int wordsWaiting;
        private final Term[] waitingTerms = new Term[MAX_WAITING];
        int termsWaiting;
        /** The SECRETS that it had in this boot: run again, it has these before others. */
        private final Term[] secrets = new Term[MAX_TABLE];
        private int secretsHad;
        private int secretsAsked;
        int seals;
        Term image;
        Term measured;
        Term sealKey;

        Partition(Terms terms, int index) {
            this.terms = terms;
            this.index = index;
            table = new Table(terms, MAX_TABLE, 256, false);
            image = terms.none;
            measured = terms.none;
            sealKey = terms.none;
        }

        void reset(int size) {
            core.reset(size);
            table.clear();
            outCount = 0;
            wordsWaiting = 0;
            termsWaiting = 0;
            secretsHad = 0;
            secretsAsked = 0;
            seals = 0;
        }

        /** What a boot loaded, for running it again. */
        void loadAs(Partition past) {
            image = past.image;
            measured = past.measured;
            sealKey = past.sealKey;
            core.load(image.words);
            for (int i = 0; i < past.secretsHad; i++) {
                secrets[i] = past.secrets[i];
            }
            secretsHad = past.secretsHad;
        }

        int waitWord(int w) {
            if (wordsWaiting >= MAX_WAITING) {
                return NO_ROOM;
            }
            waitingWords[wordsWaiting] = w;
            wordsWaiting++;
            return wordsWaiting;
        }

        int waitTerm(Term term) {
            if (termsWaiting >= MAX_WAITING) {
                return NO_ROOM;
            }
            waitingTerms[termsWaiting] = term;
            termsWaiting++;
            return termsWaiting;
        }

        int askWord() {
            core.registers[2] = wordsWaiting > 0 ? 1 : 0;
            if (wordsWaiting == 0) {
                return 0;
            }
            int word = waitingWords[0];
            wordsWaiting--;
            for (int i = 0; i < wordsWaiting; i++) {
                waitingWords[i] = waitingWords[i + 1];
            }
            return word;
        }

        int askTerm() {
            if (termsWaiting == 0) {
                return 0;
            }
            int handle = table.comeIn(waitingTerms[0]);
            if (handle < 0) {
                return handle;
            }
            termsWaiting--;
            for (int i = 0; i < termsWaiting; i++) {
                waitingTerms[i] = waitingTerms[i + 1];
            }
            return handle;
        }

        int putOut(int word, Term term) {
            if (outCount >= MAX_OUTPUTS) {
                return NO_ROOM;
            }
            outWord[outCount] = word;
            outTerm[outCount] = term;
            outCount++;
            return 0;
        }

        int askSecret() {
            if (table.isFull() || secretsAsked >= MAX_TABLE) {
                return NO_ROOM;
            }
            if (secretsAsked >= secretsHad) {
                secrets[secretsAsked] = terms.newSecret();
                secretsHad = secretsAsked + 1;
            }
            secretsAsked++;
            return table.comeIn(secrets[secretsAsked - 1]);
        }

        boolean isLike(Partition other) {
            boolean like = core.pc == other.core.pc && outCount == other.outCount;
            for (int r = 0; r < 16 && like; r++) {
                like = core.registers[r] == other.core.registers[r];
            }
            for (int i = 0; i < outCount && like; i++) {
                like = outWord[i] == other.outWord[i] && outTerm[i] == other.outTerm[i];
            }
            return like;
        }
    }

    /** Partitions that take turns, and the monitor that they ask. */
    private static final class Machine {
        static final int MAX_INPUTS = 500;
        private static final int MAX_SEALS = 40;

        private final Terms terms;
        private final Disk disk;
        /** Whether what goes out or is written counts for KNOWN; it does not in a boot that is run again. */
        private final boolean real;
        Config config = new Config();
        final Partition[] parts = new Partition[MAX_PARTITIONS];
        final int[][] sent = new int[Config.MAX_CHANNELS][Config.MAX_LENGTH];
        /** 1 where something was sent since the latest RECEIVE. */
        final int[] unread = new int[Config.MAX_CHANNELS];
        final Term[] sentTerm = new Term[Config.MAX_CHANNELS];
        boolean on;
        int ticks;
        private int slot;
        private int slotTicks;
        private boolean yielded;
        int writesToCut;
        int writes;
        int inputs;
        private final int[] inputTick = new int[MAX_INPUTS];
        private final int[] inputPart = new int[MAX_INPUTS];
        private final int[] inputWord = new int[MAX_INPUTS];
        private final Term[] inputTerms = new Term[MAX_INPUTS];

        Machine(Terms terms, Disk disk, boolean real) {
            this.terms = terms;
            this.disk = disk;
            this.real = real;
            for (int p = 0; p < MAX_PARTITIONS; p++) {
                parts[p] = new Partition(terms, p);
            }
        }

        void begin(Config booted) {
            config = booted;
            for (int p = 0; p < config.partitions; p++) {
                parts[p].reset(config.size[p]);
            }
            for (int c = 0; c < Config.MAX_CHANNELS; c++) {
                Arrays.fill(sent[c], 0);
                unread[c] = 0;
                sentTerm[c] = terms.none;
            }
            ticks = 0;
            slot = 0;
            slotTicks = 0;
            yielded = false;
            writesToCut = 0;
            inputs = 0;
        }

        /** An input that came, for running again; word does not count where a TERM came. */
        void noteInput(int p, int word, Term term) {
            if (inputs < MAX_INPUTS) {
                inputTick[inputs] = ticks;
                inputPart[inputs] = p;
                inputWord[inputs] = word;
                inputTerms[inputs] = term;
            }
            inputs++;
        }

        /** PURGING: the past boot again, with the partitions alone that flowing tells. */
        void repeat(Machine past, Disk diskThen, int flowing) {
            begin(past.config);
            disk.copyFrom(diskThen);
            for (int p = 0; p < config.partitions; p++) {
                parts[p].loadAs(past.parts[p]);
                if ((flowing >> p & 1) == 0) {
                    parts[p].core.halted = true;
                    emptyArea(p);
                }
            }
            on = true;
            for (int i = 0; i < past.inputs && i < MAX_INPUTS; i++) {
                runTicks(past.inputTick[i] - ticks);
                if ((flowing >> past.inputPart[i] & 1) == 1) {
                    repeatInput(past, i);
                }
            }
            runTicks(past.ticks - ticks);
            on = false;
        }

        private void repeatInput(Machine past, int i) {
            Partition part = parts[past.inputPart[i]];
            if (past.inputTerms[i] == terms.none) {
                part.waitWord(past.inputWord[i]);
            } else {
                part.waitTerm(past.inputTerms[i]);
            }
        }

        private void emptyArea(int p) {
            for (int blob = 0; blob < config.area[p]; blob++) {
                disk.empty(firstCopy(p, blob));
                disk.empty(firstCopy(p, blob) + 1);
            }
        }

        private int firstCopy(int p, int blob) {
            return 2 * (config.areaStart[p] + blob);
        }

        /** Ticks until there were n, or the power went: how many were over. */
        int runTicks(int n) {
            int over = 0;
            for (int i = 0; i < n && over < n && on; i++) {
                int who = config.who[slot];
                if (who >= config.partitions || yielded || parts[who].core.halted) {
                    // Nothing is done until the slot's turn ends, so its ticks pass at once.
                    over += pass(Math.min(n - over, config.steps[slot] - slotTicks));
                } else {
                    int number = parts[who].core.step();
                    if (number >= 0) {
                        endAsk(parts[who].core, answer(parts[who], number));
                    }
                    over += on ? pass(1) : 0;
                }
            }
            return over;
        }

        private int pass(int n) {
            ticks += n;
            slotTicks += n;
            if (slotTicks >= config.steps[slot]) {
                slotTicks = 0;
                yielded = false;
                slot = slot + 1 < config.slots ? slot + 1 : 0;
            }
            return n;
        }

        /** Where the power went, the ask was not done. */
        private void endAsk(Core core, int answer) {
            if (on) {
                core.registers[1] = answer;
                core.pc += 4;
            }
        }

        private int answer(Partition part, int number) {
            int r1 = part.core.registers[1];
            Term first = part.table.at(r1);
            switch (number) {
                case 0: return yieldTurn();
                case 1: return part.core.setHandler(r1);
                case 2: return part.core.cause;
                case 3: return part.core.where;
                case 4: return ticks;
                case 5: return part.askWord();
                case 6: return part.putOut(r1, terms.none);
                case 7: return send(part, r1);
                case 8: return receive(part, r1);
                case 9: return sendTerm(part, r1);
                case 10: return receiveTerm(part, r1);
                case 11: return outTerm(part, first);
                case 12: return part.askTerm();
                case 13: return part.table.comeInMade(NUMBER, r1, terms.none, terms.none, terms.none);
                case 14: return makeOf(part, PAIR);
                case 15: return makeOf(part, HASH);
                case 16: return makeOf(part, KEYED);
                case 17: return makeOf(part, PUBLIC);
                case 18: return makeOf(part, SIGNED);
                case 19: return makeOf(part, CLOSED);
                case 20: return makeOf(part, DERIVED);
                case 21: return part.askSecret();
                case 22: return first == terms.none ? NOT_AS_SAID : first.kind;
                case 23: return lookAtNumber(part, first);
                case 24: return lookInto(part, first, PAIR, first.a);
                case 25: return lookInto(part, first, PAIR, first.b);
                case 26: return lookInto(part, first, SIGNED, first.b);
                case 27: return checkSigned(part, first);
                case 28: return openClosed(part, first);
                case 29: return part.table.comeIn(part.measured);
                case 30: return quote(part, first);
                case 31: return part.table.comeIn(terms.quotePublic);
                case 32: return seal(part, r1);
                case 33: return unseal(part, r1);
                default: return versionThatCounts(part, r1);
            }
        }

        private int yieldTurn() {
            yielded = true;
            return 0;
        }

        private boolean isFrom(Partition part, int c) {
            return c >= 0 && c < config.channels && config.from[c] == part.index;
        }

        private boolean isTo(Partition part, int c) {
            return c >= 0 && c < config.channels && config.to[c] == part.index;
        }

        private int send(Partition part, int c) {
            if (!isFrom(part, c)) {
                return NONE_SUCH;
            }
            int address = part.core.registers[2];
            if (!part.core.holds(address, config.length[c])) {
                return NOT_AS_SAID;
            }
            System.arraycopy(part.core.region, address >> 2, sent[c], 0, config.length[c]);
            unread[c] = 1;
            return 0;
        }

        private int receive(Partition part, int c) {
            if (!isTo(part, c)) {
                return NONE_SUCH;
            }
            int address = part.core.registers[2];
            if (!part.core.holds(address, config.length[c])) {
                return NOT_AS_SAID;
            }
            System.arraycopy(sent[c], 0, part.core.region, address >> 2, config.length[c]);
            int fresh = unread[c];
            unread[c] = 0;
            return fresh;
        }

        private int sendTerm(Partition part, int c) {
            if (!isFrom(part, c)) {
                return NONE_SUCH;
            }
            int h = part.core.registers[2];
            if (!part.table.has(h)) {
                return NOT_AS_SAID;
            }
            sentTerm[c] = part.table.at(h);
            return 0;
        }

        private int receiveTerm(Partition part, int c) {
            if (!isTo(part, c)) {
                return NONE_SUCH;
            }
            return sentTerm[c] == terms.none ? 0 : part.table.comeIn(sentTerm[c]);
        }

        private int outTerm(Partition part, Term term) {
            if (term == terms.none) {
                return NOT_AS_SAID;
            }
            int answer = part.putOut(0, term);
            if (answer == 0 && real) {
                terms.tell(term);
            }
            return answer;
        }

        private int makeOf(Partition part, int kind) {
            int needed = Terms.parts(kind);
            for (int r = 1; r <= needed; r++) {
                if (!part.table.has(part.core.registers[r])) {
                    return NOT_AS_SAID;
                }
            }
            Term a = part.table.at(part.core.registers[1]);
            Term b = needed >= 2 ? part.table.at(part.core.registers[2]) : terms.none;
            Term c = needed >= 3 ? part.table.at(part.core.registers[3]) : terms.none;
            return part.table.comeInMade(kind, 0, a, b, c);
        }

        private int lookAtNumber(Partition part, Term term) {
            boolean found = term.kind == NUMBER;
            part.core.registers[2] = found ? 1 : 0;
            return found ? term.number : 0;
        }

        private int lookInto(Partition part, Term whole, int kind, Term inner) {
            if (whole == terms.none) {
                return NOT_AS_SAID;
            }
            return whole.kind == kind ? part.table.comeIn(inner) : NOT_NOW;
        }

        private int checkSigned(Partition part, Term key) {
            Term signed = part.table.at(part.core.registers[2]);
            if (key == terms.none || signed == terms.none) {
                return NOT_AS_SAID;
            }
            return key.kind == PUBLIC && signed.kind == SIGNED && key.a == signed.a ? 1 : 0;
        }

        private int openClosed(Partition part, Term key) {
            Term closed = part.table.at(part.core.registers[2]);
            if (key == terms.none || closed == terms.none) {
                return NOT_AS_SAID;
            }
            return closed.a == key ? lookInto(part, closed, CLOSED, closed.c) : NOT_NOW;
        }

        private int quote(Partition part, Term said) {
            if (said == terms.none) {
                return NOT_AS_SAID;
            }
            Term both = terms.find(PAIR, 0, part.measured, said, terms.none);
            if (both == terms.none) {
                if (part.table.isFull()) {
                    return NO_ROOM;
                }
                both = terms.add(PAIR, 0, part.measured, said, terms.none);
            }
            return part.table.comeInMade(SIGNED, 0, terms.quoteKey, both, terms.none);
        }

        private boolean hasBlob(Partition part, int blob) {
            return blob >= 0 && blob < config.area[part.index];
        }

        private int countingBlock(Partition part, int blob) {
            return disk.counting(firstCopy(part.index, blob), blob, part.sealKey);
        }

        private int versionThatCounts(Partition part, int blob) {
            if (!hasBlob(part, blob)) {
                return NONE_SUCH;
            }
            int counting = countingBlock(part, blob);
            return counting < 0 ? 0 : disk.version[counting];
        }

        private int unseal(Partition part, int blob) {
            if (!hasBlob(part, blob)) {
                return NONE_SUCH;
            }
            int counting = countingBlock(part, blob);
            return counting < 0 ? NOT_NOW : part.table.comeIn(disk.term[counting].c);
        }

        private int seal(Partition part, int blob) {
            if (!hasBlob(part, blob)) {
                return NONE_SUCH;
            }
            Term sealed = part.table.at(part.core.registers[2]);
            if (sealed == terms.none) {
                return NOT_AS_SAID;
            }
            if (part.seals >= MAX_SEALS) {
                return NO_ROOM;
            }
            int counting = countingBlock(part, blob);
            int version = counting < 0 ? 1 : disk.version[counting] + 1;
            int block = firstCopy(part.index, blob) + (version & 1);
            writes++;
            if (powerGoes()) {
                disk.empty(block);
                on = false;
                return 0;
            }
            Term place = terms.made(PAIR, terms.numberTerm(blob), terms.numberTerm(version), terms.none);
            Term closed = terms.made(CLOSED, part.sealKey, place, sealed);
            disk.fill(block, version, closed);
            part.seals++;
            if (real) {
                terms.tell(closed);
            }
            return version;
        }

        private boolean powerGoes() {
            if (writesToCut == 0) {
                return false;
            }
            writesToCut--;
            return writesToCut == 0;
        }
    }

    /** THE DISK. */
    private static final class Disk {
        static final int BLOCKS = 64;

        private final Term none;
        /** 0 where a BLOCK is empty. */
        final int[] version = new int[BLOCKS];
        final Term[] term = new Term[BLOCKS];

        Disk(Term none) {
            this.none = none;
            for (int i = 0; i < BLOCKS; i++) {
                term[i] = none;
            }
        }

        void copyFrom(Disk other) {
            for (int i = 0; i < BLOCKS; i++) {
                version[i] = other.version[i];
                term[i] = other.term[i];
            }
        }

        void empty(int i) {
            fill(i, 0, none);
        }

        void fill(int i, int newVersion, Term newTerm) {
            if (i >= 0 && i < BLOCKS) {
                version[i] = newVersion;
                term[i] = newTerm;
            }
        }

        /** The BLOCK that COUNTS of a BLOB with its first copy at a BLOCK; -1 without one. */
        int counting(int first, int blob, Term key) {
            boolean firstRight = isRight(first, blob, key);
            boolean secondRight = isRight(first + 1, blob, key);
            if (firstRight && secondRight) {
                return version[first + 1] > version[first] ? first + 1 : first;
            }
            if (firstRight) {
                return first;
            }
            return secondRight ? first + 1 : -1;
        }

        private boolean isRight(int i, int blob, Term key) {
            if (i < 0 || i >= BLOCKS) {
                return false;
            }
            Term closed = term[i];
            if (closed.kind != CLOSED || closed.a != key || closed.b.kind != PAIR) {
                return false;
            }
            Term told = closed.b.a;
            Term counted = closed.b.b;
            return told.kind == NUMBER && told.number == blob
                    && counted.kind == NUMBER && counted.number == version[i];
        }
    }
}
