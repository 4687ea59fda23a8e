/** Section 6, ASKS, sentence by sentence, at its boundaries. */
public final class AskEdgeTest {
    private static final int LEAST = Integer.MIN_VALUE;
    private static final int MOST = Integer.MAX_VALUE;

    public static void main(String[] args) {
        goesOn();
        yieldAnswers();
        refusals();
        handlesOfItsTable();
        refusalsWhenFull();
        handlerPlaces();
        causes();
        now();
        inputWords();
        outputs();
        sends();
        receives();
        latestSend();
        readByTheOther();
        sentTerms();
        termsApartFromWords();
        inputTerms();
        numbers();
        madeTerms();
        secrets();
        kinds();
        numbersLookedAt();
        lookedInto();
        signatures();
        closed();
        quotes();
        seals();
        unseals();
        fortySeals();
        Check.end("AskEdgeTest");
    }

    private static final int[] TWO = {2, 0, 256, 2, 256, 64, 0, 2, 0, 1, 4, 1, 0, 4, 2, 0, 1000, 1, 1000};

    /** HANDLES 1 to 6: NUMBER 5, SECRET, PAIR(1, 2), SIGNED(2, 1), CLOSED(2, 1, 3), PUBLIC(2). */
    private static Script sixTerms() {
        return new Script().silent(13, 5).silent(21).silent(14, 1, 2).silent(18, 2, 1).silent(19, 2, 1, 3).silent(17, 2);
    }

    /** Partition 0 asks once, with these registers, behind a script. */
    private static PartHouse asking(Script before, int number, int... registers) {
        StringBuilder text = new StringBuilder("jump r0, go\nr1: word " + at(registers, 0) + "\nr2: word " + at(registers, 1)
            + "\nr3: word " + at(registers, 2) + "\ngo:\n");
        String image = before.image();
        text.append(image, 0, image.lastIndexOf("jump"));
        text.append("ldw r1, r0, 4\nldw r2, r0, 8\nldw r3, r0, 12\nask " + number + "\njump r0, 0");
        PartHouse x = Check.booted(TWO, text.toString(), "back");
        x.make(0, 77, 0, 0);
        x.input(0, 8);
        x.inputTerm(0, 1);
        x.run(1 + before.ticks() + 3);
        return x;
    }

    private static int at(int[] registers, int i) {
        return i < registers.length ? registers[i] : 0;
    }

    private static void goesOn() {
        Check.about("answered in R1; PC goes on");
        for (int number = 0; number <= 34; number++) {
            PartHouse x = asking(sixTerms(), number, 1, 2, 3);
            int pc = x.state(0, 0);
            int r3 = x.register(0, 3);
            x.run(1);
            Check.due("pc behind ask " + number, x.state(0, 0), pc + 4);
            Check.due("r3 behind ask " + number, x.register(0, 3), r3);
            Check.due("no TRAP by ask " + number, x.state(0, 2) + x.state(0, 1), 0);
            boolean second = number == 5 || number == 23;
            Check.due("r2 behind ask " + number, x.register(0, 2), second ? 1 : 2);
        }
    }

    private static void yieldAnswers() {
        Check.about("0 YIELD: 0");
        PartHouse x = Check.booted(new int[] {1, 0, 16, 0, 0, 1, 0, 4}, "addi r1, r0, 9\nask 0\naddi r5, r0, 1\njump r0, 0");
        x.run(2);
        Check.due("R1 and PC", x.register(0, 1) * 10 + x.state(0, 0), 8);
        x.run(2);
        Check.due("nothing more in this turn", x.register(0, 5) * 10 + x.state(0, 0), 8);
        x.run(1);
        Check.due("in the next turn", x.register(0, 5), 1);
    }

    /** A HANDLE is good in the TABLE that it is of, and as long as its boot lasts. */
    private static void handlesOfItsTable() {
        Check.about("h, k, n are HANDLES of its TABLE (- 2: none such)");
        Script first = new Script().ask(13, 1, 5).ask(13, 2, 6).ask(22, 0, 2).ask(22, -2, 3);
        Script second = new Script().ask(22, -2, 1).ask(15, -2, 2).ask(11, -2, 1).ask(13, 1, 6).ask(22, 0, 1).ask(22, -2, 2).ask(14, -2, 1, 2);
        PartHouse x = Check.booted(new int[] {2, 0, 64, 0, 64, 64, 0, 0, 2, 0, 50, 1, 50}, first.image(), second.image());
        x.run(100);
        first.check(x, 0);
        second.check(x, 1);
        x.off();
        x.boot();
        x.run(100);
        first.check(x, 0);
        second.check(x, 1);
    }

    /** Asks that are refused: R1 and PC alone change, and the tick is over. */
    private static void refused(Script before, int want, int number, int... registers) {
        PartHouse x = asking(before, number, registers);
        String all = unchanged(x, x.state(0, 0), registers.length > 0 ? registers[0] : 0);
        x.run(1);
        String call = "ask " + number + " of " + java.util.Arrays.toString(registers);
        Check.due(call, x.register(0, 1), want);
        String after = unchanged(x, x.state(0, 0), want);
        Check.due(call + " changes nothing else" + Snapshot.difference(all, after), all.equals(after) ? 0 : 1, 0);
    }

    private static String unchanged(PartHouse x, int pc, int r1) {
        return Snapshot.of(x).replace("state 0 0 = " + pc + "\n", "").replace("register 0 1 = " + r1 + "\n", "")
            .replace("told 2 = " + x.told(2) + "\n", "");
    }

    private static void refusals() {
        Check.about("Below 0, nothing else changes: - 1 there is none such, - 2 it is not as said, - 3 not so");
        int[][] cases = {
            {-2, 1, 1024}, {-2, 1, -4}, {-2, 1, 2}, {-2, 1, MOST}, {-2, 1, LEAST},
            {-1, 7, 1, 0}, {-1, 7, 2, 0}, {-1, 7, -1, 0}, {-1, 7, LEAST, 0}, {-1, 7, MOST, 0}, {-2, 7, 0, 2}, {-2, 7, 0, 1012}, {-2, 7, 0, -4},
            {-1, 8, 0, 0}, {-1, 8, 2, 0}, {-1, 8, -1, 0}, {-1, 8, MOST, 0}, {-2, 8, 1, 2}, {-2, 8, 1, 1012}, {-2, 8, 1, -4},
            {-1, 9, 1, 1}, {-1, 9, 2, 1}, {-1, 9, -1, 1}, {-2, 9, 0, 0}, {-2, 9, 0, 7}, {-2, 9, 0, -1}, {-2, 9, 0, LEAST},
            {-1, 10, 0}, {-1, 10, 2}, {-1, 10, -1}, {-1, 10, LEAST},
            {-2, 11, 0}, {-2, 11, 7}, {-2, 11, -1}, {-2, 11, MOST}, {-2, 11, LEAST},
            {-2, 14, 0, 1}, {-2, 14, 1, 0}, {-2, 14, 7, 1}, {-2, 14, 1, 7}, {-2, 15, 0}, {-2, 15, 7}, {-2, 15, -1},
            {-2, 16, 0, 1}, {-2, 16, 1, 7}, {-2, 17, 0}, {-2, 17, 7}, {-2, 18, 7, 1}, {-2, 18, 1, 0},
            {-2, 19, 0, 1, 1}, {-2, 19, 1, 0, 1}, {-2, 19, 1, 1, 0}, {-2, 19, 7, 1, 1}, {-2, 19, 1, 7, 1}, {-2, 19, 1, 1, 7},
            {-2, 20, 0, 1}, {-2, 20, 1, 0}, {-2, 20, 1, 7}, {-2, 22, 0}, {-2, 22, 7}, {-2, 22, -1}, {-2, 22, LEAST},
            {-2, 24, 0}, {-2, 24, 7}, {-3, 24, 1}, {-3, 24, 4}, {-2, 25, 0}, {-2, 25, 7}, {-3, 25, 1}, {-3, 25, 5},
            {-2, 26, 0}, {-2, 26, 7}, {-3, 26, 3}, {-3, 26, 5}, {-2, 27, 0, 4}, {-2, 27, 7, 4}, {-2, 27, 6, 0}, {-2, 27, 6, 7},
            {-2, 28, 0, 5}, {-2, 28, 7, 5}, {-2, 28, 2, 0}, {-2, 28, 2, 7}, {-3, 28, 1, 5}, {-3, 28, 2, 4}, {-3, 28, 3, 5},
            {-2, 30, 0}, {-2, 30, 7}, {-2, 30, -1},
            {-1, 32, 2, 1}, {-1, 32, -1, 1}, {-1, 32, MOST, 1}, {-2, 32, 0, 0}, {-2, 32, 1, 7},
            {-1, 33, 2}, {-1, 33, -1}, {-1, 33, LEAST}, {-3, 33, 0}, {-3, 33, 1}, {-1, 34, 2}, {-1, 34, -1}, {-1, 34, MOST}};
        for (int[] c : cases) {
            refused(sixTerms(), c[0], c[1], java.util.Arrays.copyOfRange(c, 2, c.length));
        }
        Check.about("of several the first one in this order: - 1, - 2, - 3, - 4");
        int[][] several = {{-1, 7, 1, 2}, {-1, 7, 2, -4}, {-1, 8, 0, 2}, {-1, 8, 5, MOST}, {-1, 9, 1, 0}, {-1, 9, 2, 7}, {-2, 28, 1, 0}, {-2, 28, 0, 4},
            {-2, 27, 0, 0}, {-1, 32, 2, 0}, {-1, 32, -1, 7}};
        for (int[] c : several) {
            refused(sixTerms(), c[0], c[1], java.util.Arrays.copyOfRange(c, 2, c.length));
        }
    }

    /** With a full TABLE, 200 outputs and 40 SEALS: what is not as said comes before no room. */
    private static void refusalsWhenFull() {
        Check.about("of several the first one in this order: - 1, - 2, - 3, - 4");
        String text = "addi r1, r0, 5\nask 13\nask 21\nask 15\naddi r4, r0, 97\nmore: ask 15\naddi r4, r4, -1\nbne r4, r0, more\n"
            + "addi r4, r0, 200\nout: ask 6\naddi r4, r4, -1\nbne r4, r0, out\n"
            + "addi r4, r0, 40\nseal: addi r1, r0, 0\naddi r2, r0, 1\nask 32\naddi r4, r4, -1\nbne r4, r0, seal\n";
        int[][] cases = {{-4, 6, 1}, {-4, 11, 1}, {-2, 11, 0}, {-2, 11, 101}, {-4, 13, 6}, {1, 13, 5}, {-2, 14, 0, 1}, {-2, 15, 101}, {-4, 15, 100},
            {-2, 19, 1, 1, 0}, {-4, 19, 1, 1, 1}, {-2, 24, 0}, {-3, 24, 1}, {-2, 26, 101}, {-3, 26, 1}, {-2, 28, 1, 0}, {-3, 28, 1, 1},
            {-2, 30, 0}, {-4, 30, 1}, {-1, 10, 1}, {-1, 10, 0}, {0, 27, 1, 1}, {0, 22, 1}, {4, 22, 100}, {-1, 32, 2, 1}, {-2, 32, 1, 0}, {-2, 32, 1, 101},
            {-4, 32, 1, 1}, {-4, 32, 0, 1}, {-1, 33, 2}, {-3, 33, 1}, {1, 33, 0}, {40, 34, 0}, {0, 34, 1}};
        StringBuilder asks = new StringBuilder(text);
        for (int i = 0; i < cases.length; i++) {
            for (int r = 1; r <= cases[i].length - 2; r++) {
                asks.append("addi r" + r + ", r0, " + cases[i][r + 1] + "\n");
            }
            asks.append("ask " + cases[i][1] + "\nstw r1, r0, " + (2048 + 4 * i) + "\n");
        }
        PartHouse x = Check.booted(new int[] {2, 0, 1024, 2, 1024, 16, 0, 1, 0, 1, 1, 1, 0, 1000}, asks + "jump r0, 0", "back");
        x.run(2000);
        Check.due("handles", x.state(0, 6), 100);
        Check.due("outputs", x.state(0, 7), 200);
        Check.due("seals", x.state(0, 10), 40);
        for (int i = 0; i < cases.length; i++) {
            Check.due("ask " + java.util.Arrays.toString(cases[i]), x.memory(0, 512 + i), cases[i][0]);
        }
    }

    private static void handlerPlaces() {
        Check.about("1 HANDLER R1 (0: none): 0; - 2 it is not 0 .. 4 SIZE - 4, or no multiple of 4");
        for (int size : new int[] {16, 64, 2048}) {
            int[] places = {0, 4, 4 * size - 4, 4 * size - 3, 4 * size - 2, 4 * size - 1, 4 * size, 4 * size + 4, -4, -1, 1, 2, 3, MOST, MOST - 3, LEAST};
            for (int place : places) {
                boolean good = place >= 0 && place <= 4 * size - 4 && place % 4 == 0;
                PartHouse x = Check.booted(new int[] {1, 0, size, 0, 0, 1, 0, 9},
                    "addi r1, r0, 8\nask 1\nldw r1, r0, 20\nask 1\njump r0, 0\nword " + place);
                x.run(4);
                Check.due("HANDLER " + place + " of " + size, x.register(0, 1), good ? 0 : -2);
                Check.due("the place then", x.state(0, 5), good ? place : 8);
            }
        }
    }

    private static void causes() {
        Check.about("2 CAUSE, 3 WHERE (0 at first)");
        new Script().ask(2, 0, 9).ask(3, 0, 9).runs();
        PartHouse x = Check.booted(Check.alone(0), "addi r1, r0, 16\nask 1\nldw r2, r0, 2\nback\nask 2\nask 6\nask 3\nask 6\nback");
        x.run(8);
        Check.due("CAUSE", x.output(0, 0, 1), 3);
        Check.due("WHERE", x.output(0, 1, 1), 8);
    }

    private static void now() {
        Check.about("4 NOW: the ticks that are over");
        PartHouse x = Check.booted(Check.alone(0), "ask 4\nadd r2, r1, r0\njump r0, -2");
        x.run(1);
        Check.due("at first", x.register(0, 1), 0);
        x.run(3);
        Check.due("then", x.register(0, 1), 3);
        for (int i = 0; i < 29; i++) {
            x.run(2000);
        }
        Check.due("run", x.run(1996), 1996);
        Check.due("run", x.run(1), -4);
        Check.due("the last", x.register(0, 1), 59997);
        x = Check.booted(new int[] {1, 0, 16, 0, 0, 2, 255, 1000, 0, 1}, "ask 4");
        x.run(1001);
        Check.due("behind nobody's slot", x.register(0, 1), 1000);
    }

    private static void inputWords() {
        Check.about("5 INPUT: the word that waits longest, and R2 is 1; both are 0 without one");
        PartHouse x = Check.booted(Check.alone(0), "addi r1, r0, 7\naddi r2, r0, 7\nask 5\njump r0, -3");
        x.run(3);
        Check.due("none", x.register(0, 1) + x.register(0, 2), 0);
        int[] words = {0, -1, LEAST, MOST, 5};
        for (int i = 0; i < words.length; i++) {
            Check.due("input", x.input(0, words[i]), i + 1);
        }
        for (int i = 0; i < words.length; i++) {
            x.run(4);
            Check.due("the word", x.register(0, 1), words[i]);
            Check.due("R2", x.register(0, 2), 1);
            Check.due("waiting", x.state(0, 8), words.length - i - 1);
        }
        x.run(4);
        Check.due("none again", x.register(0, 1) + x.register(0, 2), 0);
        for (int i = 1; i <= 64; i++) {
            Check.due("input", x.input(0, i), i);
        }
        for (int i = 1; i <= 64; i++) {
            x.run(4);
            Check.due("in their order", x.register(0, 1), i);
        }
        x.run(4);
        Check.due("all were had", x.register(0, 1) + x.register(0, 2), 0);
    }

    private static void outputs() {
        Check.about("6 OUTPUT of R1: 0; - 4 it has 200");
        for (int term = 0; term <= 1; term++) {
            int out = term == 0 ? 6 : 11;
            PartHouse x = Check.booted(Check.alone(0), "ask 21\nx: addi r1, r0, 1\nask " + out + "\naddi r5, r5, 1\njump r0, x");
            x.run(1 + 4 * 199);
            Check.due("outputs", x.state(0, 7), 199);
            x.run(2);
            Check.due("the 200th", x.register(0, 1), 0);
            Check.due("outputs", x.state(0, 7), 200);
            x.run(4);
            Check.due("the 201st", x.register(0, 1), -4);
            Check.due("outputs", x.state(0, 7), 200);
            Check.due("the last", x.output(0, 199, 0), term);
            Check.due("none behind", x.output(0, 200, 0), -1);
        }
        PartHouse x = Check.booted(Check.alone(0), "ldw r1, r0, 12\nask 6\njump r0, 0\nword -2147483648");
        x.run(2);
        Check.due("a word below 0", x.output(0, 0, 1), LEAST);
        Check.due("answered", x.register(0, 1), 0);
        Check.about("11 OUT TERM R1: 0; - 4 it has 200 outputs");
        // Words and TERMS count together.
        x = Check.booted(Check.alone(0), "ask 21\nx: addi r1, r0, 1\nask 6\naddi r1, r0, 1\nask 11\naddi r5, r5, 1\njump r0, x");
        x.run(2000);
        Check.due("outputs", x.state(0, 7), 200);
        Check.due("the last is a TERM", x.output(0, 199, 0) * 10 + x.output(0, 198, 0), 10);
    }

    /** Partition 0 sends, or receives, from these ADDRESSES on; what it was answered. */
    private static void transfers(int ask, int size, int length, int[] addresses) {
        for (int address : addresses) {
            boolean good = address >= 0 && address % 4 == 0 && address <= 4 * size - 4 * length;
            int[] config = {2, 0, size, 0, size, 16, 0, 1, ask == 7 ? 0 : 1, ask == 7 ? 1 : 0, length, 1, 0, 9};
            PartHouse x = Check.booted(config, "ldw r2, r0, 12\nask " + ask + "\njump r0, 0\nword " + address, "back");
            x.run(2);
            Check.due("ask " + ask + " at " + address + " of " + size + ", LENGTH " + length, x.register(0, 1), good ? 0 : -2);
            Check.due("sent", x.channel(0, 3), good && ask == 7 ? 1 : 0);
        }
    }

    private static void sends() {
        Check.about("7 SEND over CHANNEL R1 (from this partition, else - 1) the LENGTH words from ADDRESS R2 on: 0; - 2 no multiple of 4, or one is not in the REGION");
        int[][] sizes = {{16, 16}, {16, 1}, {17, 16}, {2048, 16}, {2048, 1}, {64, 5}};
        for (int[] s : sizes) {
            int last = 4 * s[0] - 4 * s[1];
            int[] addresses = {0, 1, 2, 3, 4, last, last + 1, last + 2, last + 3, last + 4, last - 4, 4 * s[0], 4 * s[0] - 4, -4, -1, -64, MOST, MOST - 3, LEAST};
            transfers(7, s[0], s[1], addresses);
            transfers(8, s[0], s[1], addresses);
        }
        // 16 channels: each partition sends over its own alone.
        int[] config = new int[1 + 6 + 1 + 48 + 1 + 4];
        int at = 0;
        for (int w : new int[] {2, 0, 256, 0, 256, 256, 0, 16}) {
            config[at++] = w;
        }
        for (int c = 0; c < 16; c++) {
            config[at++] = c % 2;
            config[at++] = 1 - c % 2;
            config[at++] = 1;
        }
        for (int w : new int[] {2, 0, 200, 1, 200}) {
            config[at++] = w;
        }
        Script even = new Script();
        Script odd = new Script();
        for (int c = -1; c <= 16; c++) {
            boolean none = c < 0 || c > 15;
            even.ask(7, none || c % 2 == 1 ? -1 : 0, c, 0).ask(10, none || c % 2 == 0 ? -1 : 0, c);
            odd.ask(7, none || c % 2 == 0 ? -1 : 0, c, 0).ask(10, none || c % 2 == 1 ? -1 : 0, c);
        }
        PartHouse x = Check.booted(config, even.image(), odd.image());
        x.run(400);
        even.check(x, 0);
        odd.check(x, 1);
        for (int c = 0; c < 16; c++) {
            Check.due("sent over " + c, x.channel(c, 3), 1);
            Check.due("its word", x.channel(c, 5), x.memory(c % 2, 0));
        }
    }

    private static void receives() {
        Check.about("words 0 where nothing was sent): 1 if something was sent since the RECEIVE before (or ever, at the first), else 0");
        // 0 sends words 5, 6 when it is told to; 1 receives to 40 on, where 7s are.
        String from = "x: ask 5\nbeq r2, r0, -1\naddi r1, r0, 0\naddi r2, r0, 56\nask 7\njump r0, x\nroom 8\nword 5\nword 6";
        String to = "x: ask 5\nbeq r2, r0, -1\nadd r2, r1, r0\naddi r1, r0, 0\nask 8\nadd r7, r1, r0\njump r0, x\nroom 3\nword 7\nword 7\nword 7";
        PartHouse x = Check.booted(new int[] {2, 0, 16, 0, 16, 16, 0, 1, 0, 1, 2, 2, 0, 20, 1, 20}, from, to);
        receive(x, false, 40, 0, 0, 0);
        receive(x, true, 40, 1, 5, 6);
        receive(x, false, 40, 0, 5, 6);
        x.input(0, 1);
        receive(x, true, 40, 1, 5, 6);
        receive(x, true, 42, -2, 5, 6);
        Check.due("a RECEIVE that was refused leaves it", x.channel(0, 3), 1);
        receive(x, false, 40, 1, 5, 6);
        receive(x, false, 40, 0, 5, 6);
        Check.due("the word behind", x.memory(1, 12), 7);
        // At the first RECEIVE, long after the SEND.
        x = Check.booted(new int[] {2, 0, 16, 0, 16, 16, 0, 1, 0, 1, 2, 2, 0, 20, 1, 20}, from, to);
        x.input(0, 1);
        x.run(400);
        receive(x, false, 40, 1, 5, 6);
    }

    private static void receive(PartHouse x, boolean sends, int address, int want, int first, int second) {
        if (sends) {
            x.input(0, 1);
        }
        x.input(1, address);
        x.run(40);
        Check.due("RECEIVE to " + address, x.register(1, 7), want);
        Check.due("words", x.memory(1, 10) * 10 + x.memory(1, 11), first * 10 + second);
        Check.due("unread", x.channel(0, 3), want == -2 ? 1 : 0);
    }

    private static void latestSend() {
        Check.about("SEND over CHANNEL");
        // What is sent is what the words were then, and the latest send alone is received.
        String from = "addi r5, r0, 1\nx: stw r5, r0, 60\naddi r1, r0, 0\naddi r2, r0, 60\nask 7\naddi r5, r5, 1\nstw r5, r0, 60\naddi r6, r0, 4\nbne r5, r6, x\njump r0, 0";
        String to = "addi r2, r0, 60\naddi r1, r0, 0\nask 8\nadd r5, r1, r0\njump r0, 0";
        PartHouse x = Check.booted(new int[] {2, 0, 16, 0, 16, 16, 0, 1, 0, 1, 1, 2, 0, 100, 1, 100}, from, to);
        x.run(100);
        Check.due("the sender's word went on", x.memory(0, 15), 4);
        Check.due("sent last", x.channel(0, 5), 3);
        x.run(100);
        Check.due("received", x.memory(1, 15), 3);
        Check.due("answered", x.register(1, 5), 1);
    }

    private static void readByTheOther() {
        Check.about("A send is read by the other one alone; who sends learns nothing of it");
        String from = new Script().ask(8, -1, 0, 0).ask(10, -1, 0).ask(7, 0, 0, 0).ask(7, 0, 0, 0).silent(0).ask(7, 0, 0, 0).image();
        String third = new Script().ask(8, -1, 0, 0).ask(10, -1, 0).ask(7, -1, 0, 0).ask(9, -1, 0, 1).image();
        String to = new Script().ask(7, -1, 0, 0).ask(9, -1, 0, 1).ask(8, 1, 0, 200).image();
        PartHouse x = Check.booted(new int[] {3, 0, 64, 0, 64, 64, 0, 128, 64, 0, 1, 0, 1, 2, 3, 0, 50, 2, 50, 1, 50}, from, to, third);
        x.run(300);
        int[][] due = {{-1, -1, 0, 0, 0}, {-1, -1, 1}, {-1, -1, -1, -1}};
        for (int p = 0; p < 3; p++) {
            Check.due("outputs of " + p, x.state(p, 7), due[p].length);
            for (int i = 0; i < due[p].length; i++) {
                Check.due("output " + i + " of " + p, x.output(p, i, 1), due[p][i]);
            }
        }
    }

    private static void sentTerms() {
        Check.about("9 SEND TERM R2 over CHANNEL R1: 0. 10 RECEIVE TERM from CHANNEL R1: the latest; 0 without one");
        Script from = new Script().ask(9, -2, 0, 1).ask(13, 1, 4).ask(9, -2, 0, 0).ask(9, -2, 0, 2).silent(0)
            .ask(13, 2, 5).ask(9, 0, 0, 1).ask(9, 0, 0, 2).silent(0).ask(9, -2, 0, 3).ask(9, 0, 0, 1);
        Script to = new Script().ask(10, 0, 0).silent(0).ask(10, 1, 0).ask(10, 1, 0).ask(23, 5, 1).silent(0).ask(10, 2, 0).ask(23, 4, 2);
        PartHouse x = Check.booted(new int[] {2, 0, 64, 0, 64, 64, 0, 1, 0, 1, 1, 2, 0, 50, 1, 50}, from.image(), to.image());
        x.run(50);
        Check.due("none was sent", x.channel(0, 4), 0);
        x.run(250);
        from.check(x, 0);
        to.check(x, 1);
        Check.due("ever sent", x.channel(0, 4), 1);
    }

    private static void termsApartFromWords() {
        Check.about("9, 10 have nothing to do with 7, 8");
        Script from = new Script().silent(13, 4).ask(9, 0, 0, 1).silent(0).ask(7, 0, 0, 0);
        Script to = new Script().ask(8, 0, 0, 200).ask(10, 1, 0).ask(8, 0, 0, 200).silent(0).ask(10, 1, 0).ask(8, 1, 0, 200).ask(10, 1, 0);
        PartHouse x = Check.booted(new int[] {2, 0, 64, 0, 64, 64, 0, 1, 0, 1, 1, 2, 0, 50, 1, 50}, from.image(), to.image());
        x.run(50);
        Check.due("a TERM alone", x.channel(0, 4) * 10 + x.channel(0, 3), 10);
        x.run(100);
        Check.due("then words", x.channel(0, 4) * 10 + x.channel(0, 3), 11);
        x.run(50);
        from.check(x, 0);
        to.check(x, 1);
        x = Check.booted(new int[] {2, 0, 64, 0, 64, 64, 0, 1, 0, 1, 1, 2, 0, 50, 1, 50}, "ask 7\njump r0, 0", "ask 10\njump r0, 0");
        x.run(100);
        Check.due("words alone", x.channel(0, 4) * 10 + x.channel(0, 3), 1);
        Check.due("no TERM", x.register(1, 1) + x.state(1, 6), 0);
    }

    private static void inputTerms() {
        Check.about("12 IN TERM: the one that waits longest, it waits no more; 0 without one; - 4, and it waits yet");
        PartHouse x = Check.booted(Check.alone(0), "x: ask 12\njump r0, x");
        x.run(1);
        Check.due("none", x.register(0, 1), 0);
        for (int i = 1; i <= 101; i++) {
            x.make(0, i, 0, 0);
        }
        for (int i = 1; i <= 64; i++) {
            Check.due("inputTerm", x.inputTerm(0, i), i);
        }
        for (int i = 1; i <= 64; i++) {
            x.run(2);
            Check.due("in their order", x.register(0, 1), i);
            Check.due("the same", x.same(0, i, -1, i), 1);
            Check.due("waiting", x.state(0, 9), 64 - i);
        }
        for (int i = 65; i <= 101; i++) {
            x.inputTerm(0, i);
        }
        x.inputTerm(0, 7);
        x.run(2 * 36);
        Check.due("the 100th", x.register(0, 1), 100);
        Check.due("two wait", x.state(0, 9), 2);
        x.run(20);
        Check.due("no room", x.register(0, 1), -4);
        Check.due("they wait yet", x.state(0, 9), 2);
        Check.due("handles", x.state(0, 6), 100);
        // One that is in the full TABLE already has its HANDLE, and waits no more.
        PartHouse y = Check.booted(new int[] {1, 0, 16, 0, 0, 1, 0, 300}, "ask 12\nx: ask 21\nbge r1, r0, x\nask 0\nask 12\njump r0, 0");
        y.make(0, 5, 0, 0);
        y.inputTerm(0, 1);
        y.run(300);
        y.inputTerm(0, 1);
        Check.due("handles", y.state(0, 6), 100);
        y.run(10);
        Check.due("its HANDLE", y.register(0, 1), 1);
        Check.due("none waits", y.state(0, 9), 0);
        Check.due("handles", y.state(0, 6), 100);
    }

    private static void numbers() {
        Check.about("13 NUMBER R1");
        int[] words = {0, 1, -1, LEAST, MOST, 65536};
        StringBuilder text = new StringBuilder();
        for (int i = 0; i < words.length; i++) {
            text.append("ldw r1, r0, " + (200 + 4 * i) + "\nask 13\n");
        }
        text.append("jump r0, 0\nroom " + (50 - 2 * words.length - 1) + "\n");
        for (int w : words) {
            text.append("word " + w + "\n");
        }
        PartHouse x = Check.booted(Check.alone(0), text.toString());
        x.run(2 * words.length);
        Check.due("handles", x.state(0, 6), words.length);
        for (int i = 0; i < words.length; i++) {
            Check.due("make", x.make(0, words[i], 0, 0), i + 1);
            Check.due("the same", x.same(0, i + 1, -1, i + 1), 1);
        }
    }

    private static void madeTerms() {
        Check.about("14 PAIR R1, R2. 15 HASH R1. 16 KEYED R1, R2. 17 PUBLIC R1. 18 SIGNED R1, R2. 19 CLOSED R1, R2, R3. 20 DERIVED R1, R2");
        // Of NUMBERS 1, 2, 3 (its HANDLES too); registers that an ask does not need do not count.
        Script s = new Script().ask(13, 1, 1).ask(13, 2, 2).ask(13, 3, 3);
        int[] kinds = {3, 4, 5, 6, 7, 8, 9};
        for (int i = 0; i < kinds.length; i++) {
            int third = kinds[i] == 8 ? 3 : 99;
            int second = kinds[i] == 4 || kinds[i] == 6 ? 99 : 2;
            s.ask(14 + i, 4 + i, 1, second, third).ask(22, kinds[i], 4 + i);
        }
        PartHouse x = s.runs();
        for (int i = 1; i <= 3; i++) {
            x.make(0, i, 0, 0);
        }
        for (int i = 0; i < kinds.length; i++) {
            int h = x.make(kinds[i], 1, 2, 3);
            Check.due("the outside's of kind " + kinds[i], x.same(0, 4 + i, -1, h), 1);
        }
        // Nor do they where they are HANDLES.
        Script t = new Script().ask(13, 1, 1).ask(13, 2, 2).ask(13, 3, 3);
        for (int i = 0; i < kinds.length; i++) {
            boolean one = kinds[i] == 4 || kinds[i] == 6;
            t.ask(14 + i, 4 + i, 1, 2, 3).ask(14 + i, 4 + i, 1, one ? 3 : 2, kinds[i] == 8 ? 3 : 1);
        }
        x = t.runs();
        for (int i = 1; i <= 3; i++) {
            x.make(0, i, 0, 0);
        }
        for (int i = 0; i < kinds.length; i++) {
            Check.due("the outside's of kind " + kinds[i], x.same(0, 4 + i, -1, x.make(kinds[i], 1, 2, 3)), 1);
        }
    }

    private static void secrets() {
        Check.about("21 a SECRET that nothing has yet");
        PartHouse x = new Script().ask(21, 1).ask(21, 2).ask(21, 3).ask(22, 2, 3).runs();
        Check.due("they are three", x.same(0, 1, 0, 2) + x.same(0, 2, 0, 3) + x.same(0, 1, 0, 3), 0);
        Check.due("not known", x.knows(0, 1) + x.knows(0, 2) + x.knows(0, 3), 0);
    }

    private static void kinds() {
        Check.about("22 the kind of R1");
        new Script().ask(13, 1, 0).ask(21, 2).ask(14, 3, 1, 2).ask(15, 4, 1).ask(16, 5, 1, 2).ask(17, 6, 1).ask(18, 7, 1, 2).ask(19, 8, 1, 2, 1)
            .ask(20, 9, 1, 2).ask(22, 0, 1).ask(22, 2, 2).ask(22, 3, 3).ask(22, 4, 4).ask(22, 5, 5).ask(22, 6, 6).ask(22, 7, 7).ask(22, 8, 8)
            .ask(22, 9, 9).ask(22, -2, 10).ask(22, -2, 0).ask(22, -2, -1).runs();
    }

    private static void numbersLookedAt() {
        Check.about("23 of a NUMBER R1 its w, and R2 is 1; both are 0 for others (also for no HANDLE)");
        Script s = new Script().ask(13, 1, 0).ask(13, 2, -131072).ask(13, 3, 131071).ask(21, 4).ask(15, 5, 1).ask(14, 6, 1, 1);
        int[][] cases = {{1, 0, 1}, {2, -131072, 1}, {3, 131071, 1}, {4, 0, 0}, {5, 0, 0}, {6, 0, 0}, {7, 0, 0}, {0, 0, 0}, {-1, 0, 0}, {101, 0, 0}};
        for (int[] c : cases) {
            s.ask(23, c[1], c[0], 9).out(2, c[2]);
        }
        s.runs();
    }

    private static void lookedInto() {
        Check.about("24 the first of a PAIR R1, 25 its second; - 3 it is none. 26 of SIGNED(k, a) R1 a; - 3");
        // 1, 2 NUMBERS, 3 PAIR, 4 HASH, 5 KEYED, 6 PUBLIC, 7 SIGNED, 8 CLOSED, 9 DERIVED, all of 1, 2; 10 a SECRET.
        Script s = new Script().silent(13, 1).silent(13, 2);
        for (int ask = 14; ask <= 20; ask++) {
            s.silent(ask, 1, 2, 2);
        }
        s.silent(21);
        for (int h = -1; h <= 11; h++) {
            boolean none = h < 1 || h > 10;
            s.ask(24, none ? -2 : h == 3 ? 1 : -3, h).ask(25, none ? -2 : h == 3 ? 2 : -3, h).ask(26, none ? -2 : h == 7 ? 2 : -3, h);
        }
        PartHouse x = s.runs();
        Check.due("handles", x.state(0, 6), 10);
    }

    private static void signatures() {
        Check.about("27 1, if R1 is PUBLIC(k) and R2 SIGNED(k, a) of the same k, else 0");
        // 1, 2 SECRETS, 3 PUBLIC(1), 4 PUBLIC(2), 5 SIGNED(1, 2), 6 SIGNED(2, 1), 7 KEYED(1, 2), 8 DERIVED(1, 2), 9 HASH(1), 10 SIGNED(1, 1), 11 PUBLIC(3).
        Script s = new Script().silent(21).silent(21).silent(17, 1).silent(17, 2).silent(18, 1, 2).silent(18, 2, 1).silent(16, 1, 2).silent(20, 1, 2)
            .silent(15, 1).silent(18, 1, 1).silent(17, 3);
        for (int k : new int[] {0, 1, 3, 4, 5, 9, 11, 12}) {
            for (int h : new int[] {-1, 0, 1, 3, 5, 6, 7, 8, 9, 10, 12}) {
                boolean none = k < 1 || k > 11 || h < 1 || h > 11;
                boolean right = k == 3 && (h == 5 || h == 10) || k == 4 && h == 6;
                s.ask(27, none ? -2 : right ? 1 : 0, k, h);
            }
        }
        PartHouse x = Check.booted(new int[] {1, 0, 2048, 0, 0, 1, 0, 1000}, s.image());
        x.run(s.ticks());
        s.check(x, 0);
    }

    private static void closed() {
        Check.about("28 of CLOSED(k, n, a) R2, k being R1, a; - 3");
        // 1, 2, 3 SECRETS, 4 CLOSED(1, 2, 3), 5 CLOSED(2, 1, 1), 6 SIGNED(1, 2), 7 KEYED(1, 3).
        Script s = new Script().silent(21).silent(21).silent(21).silent(19, 1, 2, 3).silent(19, 2, 1, 1).silent(18, 1, 2).silent(16, 1, 3);
        for (int k = 0; k <= 8; k++) {
            for (int h = 0; h <= 8; h++) {
                boolean none = k < 1 || k > 7 || h < 1 || h > 7;
                s.ask(28, none ? -2 : k == 1 && h == 4 ? 3 : k == 2 && h == 5 ? 1 : -3, k, h);
            }
        }
        PartHouse x = s.runs();
        Check.due("handles", x.state(0, 6), 7);
    }

    private static void quotes() {
        Check.about("29 its R(p). 30 SIGNED(QK, PAIR(R(p), R1)). 31 PUBLIC(QK)");
        Script s = new Script().ask(13, 1, 9).ask(30, 2, 1).ask(31, 3).ask(27, 1, 3, 2).ask(26, 4, 2).ask(24, 5, 4).ask(25, 1, 4).ask(29, 5)
            .ask(30, 6, 2).ask(27, 1, 3, 6).ask(30, 2, 1).ask(30, -2, 0).ask(30, -2, 7);
        PartHouse x = Check.booted(new int[] {2, 0, 128, 0, 128, 128, 0, 0, 2, 0, 100, 1, 100}, s.image(), s.image());
        x.run(200);
        s.check(x, 0);
        s.check(x, 1);
        Check.due("R(0)", x.same(0, 5, -1, x.measure(0)), 1);
        Check.due("R(1)", x.same(1, 5, -1, x.measure(1)), 1);
        Check.due("two measures", x.same(0, 5, 1, 5), 0);
        Check.due("two quotes", x.same(0, 2, 1, 2), 0);
        Check.due("one QK", x.same(0, 3, 1, 3), 1);
    }

    private static void seals() {
        Check.about("32 SEAL the TERM R2 as BLOB R1 (- 1: not below its AREA): its VERSION");
        for (int area = 0; area <= 8; area += 4) {
            Script s = new Script().ask(13, 1, 5);
            for (int blob = -1; blob <= 9; blob++) {
                boolean none = blob < 0 || blob >= area;
                s.ask(34, none ? -1 : 0, blob).ask(33, none ? -1 : -3, blob).ask(32, none ? -1 : 1, blob, 1).ask(34, none ? -1 : 1, blob)
                    .ask(33, none ? -1 : 1, blob).ask(32, none ? -1 : -2, blob, 2).ask(32, none ? -1 : -2, blob, 0);
            }
            PartHouse x = Check.booted(new int[] {1, 0, 1024, area, 0, 1, 0, 1000}, s.image());
            x.run(s.ticks());
            s.check(x, 0);
            Check.due("seals", x.state(0, 10), area);
            Check.due("writes", x.told(5), area);
        }
    }

    private static void unseals() {
        Check.about("33 UNSEAL BLOB R1: its TERM; - 3 no copy is RIGHT. 34 the VERSION that COUNTS of BLOB R1; 0 without one");
        // 1 a SECRET, 2 a NUMBER; BLOB 1 of an AREA of 2.
        Script s = new Script().ask(33, -3, 1).ask(34, 0, 1).ask(21, 1).ask(13, 2, 5).ask(32, 1, 1, 1).ask(33, 1, 1).ask(34, 1, 1).ask(32, 2, 1, 2)
            .ask(33, 2, 1).ask(34, 2, 1).ask(33, -3, 0).ask(34, 0, 0).ask(33, -1, 2).ask(34, -1, 2).ask(33, -1, -1).ask(34, -1, -1);
        PartHouse x = Check.booted(new int[] {1, 0, 128, 2, 0, 1, 0, 1000}, s.image());
        x.run(s.ticks());
        s.check(x, 0);
        Check.due("UNSEAL writes nothing", x.told(5), 2);
        Check.due("BLOCKS", x.block(2, 0) * 10 + x.block(3, 0), 21);
    }

    private static void fortySeals() {
        Check.about("- 4 it sealed 40 times in this boot");
        String text = "ask 21\nx: addi r1, r0, 1\nadd r2, r1, r0\nask 32\naddi r5, r5, 1\njump r0, x";
        PartHouse x = Check.booted(new int[] {2, 0, 16, 2, 16, 16, 2, 0, 2, 0, 1000, 1, 1000}, text, text);
        x.run(1 + 5 * 39 + 3);
        Check.due("the 40th", x.register(0, 1), 40);
        Check.due("seals", x.state(0, 10), 40);
        x.run(5);
        Check.due("the 41st", x.register(0, 1), -4);
        Check.due("seals", x.state(0, 10), 40);
        Check.due("writes", x.told(5), 40);
        Check.due("the block", x.block(2, 0), 40);
        x.run(1200);
        Check.due("another's are its own", x.state(1, 10), 40);
        Check.due("writes", x.told(5), 80);
        x.off();
        x.boot();
        x.run(4);
        Check.due("in the next boot", x.register(0, 1), 41);
        Check.due("seals", x.state(0, 10), 1);
    }
}
