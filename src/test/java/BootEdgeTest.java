import java.util.ArrayList;
import java.util.Arrays;
import java.util.List;

/** Sections 4, BOOTS, and 5, TICKS, sentence by sentence, at their boundaries. */
public final class BootEdgeTest {
    private static final String SPIN = "x: jump r0, x";

    public static void main(String[] args) {
        partitionCount();
        bases();
        sizes();
        overlaps();
        areas();
        channelCount();
        channelEnds();
        lengths();
        slotCount();
        owners();
        steps();
        nothingBehind();
        endsTooEarly();
        firstFault();
        allIsZero();
        imagesStand();
        measures();
        slotsGoRound();
        greatestSlots();
        yields();
        tickOver();
        Check.end("BootEdgeTest");
    }

    /** Boots with this CONFIG and spinning images for all. */
    private static int boot(int... row) {
        PartHouse x = new PartHouse();
        Check.keepRow(x, Check.LOADER, 1);
        for (int p = 0; p < 8; p++) {
            Check.keepText(x, p, SPIN);
        }
        Check.due("keep", Check.keepRow(x, Check.CONFIG, row), row.length);
        int answer = x.boot();
        Check.due("power", x.told(0), answer > 0 ? 1 : 0);
        Check.due("boots", x.told(1), answer > 0 ? 1 : 0);
        Check.due("partitions", x.told(3), answer > 0 ? answer : 0);
        return answer;
    }

    private static int[] row(List<Integer> words) {
        return words.stream().mapToInt(Integer::intValue).toArray();
    }

    /** So many partitions of 16 words each, behind one another, with these AREAS; then the words that follow. */
    private static int[] with(int partitions, int[] areas, int... rest) {
        List<Integer> words = new ArrayList<>();
        words.add(partitions);
        for (int p = 0; p < partitions; p++) {
            words.addAll(List.of(16 * p, 16, p < areas.length ? areas[p] : 0));
        }
        for (int w : rest) {
            words.add(w);
        }
        return row(words);
    }

    private static void partitionCount() {
        Check.about("N (1 .. 8), the number of partitions");
        Check.due("0", boot(0, 0, 16, 0, 0, 1, 0, 1), -100);
        Check.due("-1", boot(-1, 0, 16, 0, 0, 1, 0, 1), -100);
        Check.due("the least", boot(Integer.MIN_VALUE), -100);
        for (int n = 1; n <= 8; n++) {
            Check.due("" + n, boot(with(n, new int[0], 0, 1, n - 1, 1)), n);
        }
        int[] nine = with(9, new int[0], 0, 1, 0, 1);
        Check.due("9", boot(nine), -100);
        Check.due("the most", boot(Integer.MAX_VALUE), -100);
    }

    private static void bases() {
        Check.about("BASE (0 .. 8176)");
        Check.due("-1", boot(1, -1, 16, 0, 0, 1, 0, 1), -101);
        Check.due("0", boot(1, 0, 16, 0, 0, 1, 0, 1), 1);
        Check.due("8176", boot(1, 8176, 16, 0, 0, 1, 0, 1), 1);
        Check.due("8177", boot(1, 8177, 16, 0, 0, 1, 0, 1), -101);
        Check.due("the least", boot(1, Integer.MIN_VALUE, 16, 0, 0, 1, 0, 1), -101);
        Check.due("the most", boot(1, Integer.MAX_VALUE, 16, 0, 0, 1, 0, 1), -101);
        Check.due("of the second", boot(2, 0, 16, 0, 8177, 16, 0, 0, 1, 0, 1), -104);
    }

    private static void sizes() {
        Check.about("SIZE (16 .. 2048; BASE + SIZE at most 8192");
        Check.due("15", boot(1, 0, 15, 0, 0, 1, 0, 1), -102);
        Check.due("16", boot(1, 0, 16, 0, 0, 1, 0, 1), 1);
        Check.due("2048", boot(1, 0, 2048, 0, 0, 1, 0, 1), 1);
        Check.due("2049", boot(1, 0, 2049, 0, 0, 1, 0, 1), -102);
        Check.due("0", boot(1, 0, 0, 0, 0, 1, 0, 1), -102);
        Check.due("the most", boot(1, 0, Integer.MAX_VALUE, 0, 0, 1, 0, 1), -102);
        Check.due("the most behind 8176", boot(1, 8176, Integer.MAX_VALUE, 0, 0, 1, 0, 1), -102);
        Check.due("the least", boot(1, 0, Integer.MIN_VALUE, 0, 0, 1, 0, 1), -102);
        Check.due("6144 and 2048", boot(1, 6144, 2048, 0, 0, 1, 0, 1), 1);
        Check.due("6145 and 2048", boot(1, 6145, 2048, 0, 0, 1, 0, 1), -102);
        Check.due("6145 and 2047", boot(1, 6145, 2047, 0, 0, 1, 0, 1), 1);
        Check.due("8176 and 17", boot(1, 8176, 17, 0, 0, 1, 0, 1), -102);
    }

    private static void overlaps() {
        Check.about("and no word from BASE on that one before has");
        int[][] cases = {{84, 16, 2}, {84, 17, -105}, {100, 16, -105}, {134, 16, -105}, {135, 16, -105}, {149, 16, -105}, {150, 16, 2},
            {100, 50, -105}, {99, 52, -105}, {99, 16, -105}, {0, 100, 2}, {0, 101, -105}, {0, 2048, -105}, {110, 16, -105}};
        for (int[] c : cases) {
            Check.due(c[0] + ", " + c[1] + " beside 100, 50", boot(2, 100, 50, 0, c[0], c[1], 0, 0, 1, 0, 1), c[2]);
        }
        // Not the one before alone, but each before.
        Check.due("the first of three", boot(3, 0, 20, 0, 40, 20, 0, 19, 16, 0, 0, 1, 0, 1), -108);
        Check.due("the second of three", boot(3, 0, 20, 0, 40, 20, 0, 59, 16, 0, 0, 1, 0, 1), -108);
        Check.due("between", boot(3, 0, 20, 0, 40, 20, 0, 20, 20, 0, 0, 1, 0, 1), 3);
        Check.due("one word too long", boot(3, 0, 20, 0, 40, 20, 0, 20, 21, 0, 0, 1, 0, 1), -108);
        Check.due("four of 2048", boot(4, 0, 2048, 0, 2048, 2048, 0, 4096, 2048, 0, 6144, 2048, 0, 0, 1, 0, 1), 4);
    }

    private static void areas() {
        Check.about("AREA (0 .. 8; all so far together at most 32)");
        Check.due("-1", boot(1, 0, 16, -1, 0, 1, 0, 1), -103);
        Check.due("8", boot(1, 0, 16, 8, 0, 1, 0, 1), 1);
        Check.due("9", boot(1, 0, 16, 9, 0, 1, 0, 1), -103);
        Check.due("the most", boot(1, 0, 16, Integer.MAX_VALUE, 0, 1, 0, 1), -103);
        int[] end = {0, 1, 0, 1};
        Check.due("32 by four", boot(with(4, new int[] {8, 8, 8, 8}, end)), 4);
        Check.due("32 and none", boot(with(5, new int[] {8, 8, 8, 8, 0}, end)), 5);
        Check.due("33 by the fifth", boot(with(5, new int[] {8, 8, 8, 8, 1}, end)), -115);
        Check.due("32 by eight", boot(with(8, new int[] {4, 4, 4, 4, 4, 4, 4, 4}, end)), 8);
        Check.due("33 by the last", boot(with(8, new int[] {4, 4, 4, 4, 4, 4, 4, 5}, end)), -124);
        Check.due("31 and 1", boot(with(5, new int[] {8, 8, 8, 7, 1}, end)), 5);
        Check.due("31 and 2", boot(with(5, new int[] {8, 8, 8, 7, 2}, end)), -115);
    }

    private static int[] withChannels(int count, int... channel) {
        List<Integer> words = new ArrayList<>(List.of(3, 0, 16, 0, 16, 16, 0, 32, 16, 0, count));
        for (int c = 0; c < Math.max(count, 0); c++) {
            for (int w : channel) {
                words.add(w);
            }
        }
        words.addAll(List.of(1, 0, 1));
        return row(words);
    }

    private static void channelCount() {
        Check.about("the number of CHANNELS (0 .. 16)");
        Check.due("-1", boot(withChannels(-1)), -110);
        Check.due("0", boot(withChannels(0)), 3);
        Check.due("16", boot(withChannels(16, 0, 1, 1)), 3);
        Check.due("17", boot(withChannels(17, 0, 1, 1)), -110);
        Check.due("the most", boot(3, 0, 16, 0, 16, 16, 0, 32, 16, 0, Integer.MAX_VALUE), -110);
    }

    private static void channelEnds() {
        Check.about("for each FROM (a partition), TO (another one)");
        for (int from = -1; from <= 3; from++) {
            for (int to = -1; to <= 3; to++) {
                int want = from < 0 || from > 2 ? -111 : to < 0 || to > 2 || to == from ? -112 : 3;
                Check.due(from + " to " + to, boot(withChannels(1, from, to, 1)), want);
            }
        }
        Check.due("nobody", boot(withChannels(1, 255, 0, 1)), -111);
        Check.due("to nobody", boot(withChannels(1, 0, 255, 1)), -112);
        Check.due("of one partition alone", boot(1, 0, 16, 0, 1, 0, 0, 1, 1, 0, 1), -106);
    }

    private static void lengths() {
        Check.about("LENGTH (1 .. 16)");
        int[] all = {-1, 0, 1, 16, 17, Integer.MAX_VALUE, Integer.MIN_VALUE};
        for (int length : all) {
            Check.due("" + length, boot(withChannels(1, 0, 1, length)), length >= 1 && length <= 16 ? 3 : -113);
        }
    }

    private static int[] withSlots(int count, int who, int steps) {
        List<Integer> words = new ArrayList<>(List.of(2, 0, 16, 0, 16, 16, 0, 0, count));
        for (int s = 0; s < Math.max(count, 0); s++) {
            words.addAll(List.of(who, steps));
        }
        return row(words);
    }

    private static void slotCount() {
        Check.about("the number of SLOTS (1 .. 32)");
        Check.due("-1", boot(withSlots(-1, 0, 1)), -108);
        Check.due("0", boot(withSlots(0, 0, 1)), -108);
        Check.due("1", boot(withSlots(1, 0, 1)), 2);
        Check.due("32", boot(withSlots(32, 0, 1)), 2);
        Check.due("33", boot(withSlots(33, 0, 1)), -108);
    }

    private static void owners() {
        Check.about("WHO (a partition, or 255, nobody)");
        int[] all = {-1, 0, 1, 2, 8, 254, 255, 256, Integer.MAX_VALUE, Integer.MIN_VALUE};
        for (int who : all) {
            Check.due("" + who, boot(withSlots(1, who, 1)), who == 0 || who == 1 || who == 255 ? 2 : -109);
        }
    }

    private static void steps() {
        Check.about("STEPS (1 .. 1000)");
        int[] all = {-1, 0, 1, 1000, 1001, Integer.MAX_VALUE, Integer.MIN_VALUE};
        for (int steps : all) {
            Check.due("" + steps, boot(withSlots(1, 0, steps)), steps >= 1 && steps <= 1000 ? 2 : -110);
        }
        Check.due("of the last slot", boot(2, 0, 16, 0, 16, 16, 0, 0, 2, 0, 1000, 255, 1001), -112);
    }

    private static void nothingBehind() {
        Check.about("nothing behind");
        int[] good = withSlots(3, 1, 9);
        Check.due("nothing", boot(good), 2);
        for (int more = 1; more <= 4; more++) {
            Check.due(more + " behind", boot(Arrays.copyOf(good, good.length + more)), -100 - good.length);
        }
        Check.due("200 words", boot(Arrays.copyOf(good, 200)), -100 - good.length);
    }

    private static void endsTooEarly() {
        Check.about("its length, if it ends too early");
        List<Integer> words = new ArrayList<>();
        for (int w : with(8, new int[] {4, 4, 4, 4, 4, 4, 4, 4}, 16)) {
            words.add(w);
        }
        for (int c = 0; c < 16; c++) {
            words.addAll(List.of(c / 2, (c / 2 + 1) % 8, 16));
        }
        words.add(32);
        for (int s = 0; s < 32; s++) {
            words.addAll(List.of(s % 8, 1000));
        }
        int[] most = row(words);
        Check.due("the longest one", most.length, 139);
        Check.due("whole", boot(most), 8);
        for (int length = 1; length < most.length; length++) {
            Check.due("its first " + length, boot(Arrays.copyOf(most, length)), -100 - length);
        }
    }

    private static void firstFault() {
        Check.about("Its FAULT is the first word that can't stand there by those before it");
        Check.due("BASE and SIZE", boot(1, 8177, 15, 9, 17, 0, 5, 0), -101);
        Check.due("SIZE and AREA", boot(1, 0, 15, 9, 17, 0, 5, 0), -102);
        Check.due("AREA and CHANNELS", boot(1, 0, 16, 9, 17, 0, 5, 0), -103);
        Check.due("CHANNELS and SLOTS", boot(1, 0, 16, 0, 17, 0, 5, 0), -104);
        Check.due("SLOTS and WHO", boot(1, 0, 16, 0, 0, 0, 5, 0), -105);
        Check.due("WHO and STEPS", boot(1, 0, 16, 0, 0, 1, 5, 0), -106);
        Check.due("STEPS", boot(1, 0, 16, 0, 0, 1, 0, 0), -107);
        Check.about("-100 less the place of THE CONFIG's FAULT");
        Check.due("the first place", boot(9), -100);
        Check.due("the second place", boot(1, -1), -101);
        Check.due("too short and wrong", boot(1, 0, 15), -102);
        Check.due("of the second", boot(2, 0, 16, 0, 15, 15, 9, 17), -105);
    }

    private static void allIsZero() {
        Check.about("memory, registers, PC, HANDLER, CAUSE, WHERE are 0, TABLES, CHANNELS, inputs, outputs empty");
        StringBuilder text = new StringBuilder("ask 21\nask 11\naddi r2, r0, 1\naddi r1, r0, 0\nask 32\naddi r1, r0, 200\nask 1\n");
        for (int r = 3; r <= 15; r++) {
            text.append("addi r" + r + ", r0, " + r + "\n");
        }
        text.append("addi r1, r0, 0\naddi r2, r0, 0\nask 7\naddi r2, r0, 1\naddi r1, r0, 0\nask 9\nstw r15, r0, 252\nword 0\nroom 22\nask 0");
        PartHouse x = Check.booted(new int[] {2, 0, 64, 1, 64, 64, 0, 1, 0, 1, 2, 1, 0, 100}, text.toString(), SPIN);
        x.make(0, 5, 0, 0);
        for (int i = 0; i < 3; i++) {
            x.input(0, 5);
            x.inputTerm(0, 1);
        }
        x.run(30);
        int[] changed = {0, 2, 3, 4, 5, 6, 7, 8, 9, 10};
        for (int what : changed) {
            Check.due("state " + what + " was not 0", x.state(0, what) != 0 ? 1 : 0, 1);
        }
        Check.due("sent", x.channel(0, 3) + x.channel(0, 4), 2);
        Check.due("a word was sent", x.channel(0, 5) != 0 ? 1 : 0, 1);
        Check.due("a word was stored", x.memory(0, 63), 15);
        x.off();
        x.boot();
        for (int what = 0; what <= 10; what++) {
            Check.due("state " + what, x.state(0, what), 0);
        }
        for (int r = 0; r < 16; r++) {
            Check.due("register " + r, x.register(0, r), 0);
        }
        Check.due("memory behind the image", x.memory(0, 63), 0);
        for (int what = 3; what <= 20; what++) {
            Check.due("channel, " + what, x.channel(0, what), 0);
        }
        Check.due("ticks", x.told(2), 0);
        Check.due("no output", x.output(0, 0, 0), -1);
        Check.due("no handle", x.same(0, 1, 0, 1), -1);
        Check.about("ticks are 0");
        x.run(7);
        x.off();
        Check.due("OFF", x.told(2), 7);
        x.boot();
        Check.due("ON", x.told(2), 0);
    }

    private static void imagesStand() {
        Check.about("each image stands from its REGION's beginning on");
        PartHouse x = new PartHouse();
        Check.keepRow(x, Check.LOADER, 1);
        Check.keepRow(x, Check.CONFIG, 3, 100, 16, 0, 116, 2048, 0, 50, 50, 0, 0, 1, 0, 1);
        Check.keepRow(x, 0, 5);
        Check.assemble(x, "word 1\nroom 2046\nword 7");
        x.keep(1);
        Check.keepRow(x, 2, 1, 2, 3, 4, 5, 6, 7);
        Check.due("boot", x.boot(), 3);
        Check.due("one word", x.memory(0, 0) * 10 + x.memory(0, 1) + x.memory(0, 15), 50);
        Check.due("as many words as there are", x.memory(1, 0) * 10 + x.memory(1, 2047), 17);
        Check.due("none behind", x.memory(0, 16) + x.memory(1, 2048) + x.memory(2, 50), 0);
        for (int i = 0; i < 10; i++) {
            Check.due("word " + i, x.memory(2, i), i < 7 ? i + 1 : 0);
        }
        // A shorter image leaves nothing of a longer one before.
        x.off();
        Check.keepRow(x, 2, 9);
        x.boot();
        Check.due("a shorter one", x.memory(2, 0) * 10 + x.memory(2, 1) + x.memory(2, 6), 90);
    }

    private static void measures() {
        Check.about("R(p) = HASH(PAIR(HASH(PAIR(L, C)), PAIR(NUMBER p, HASH(ROW of p's image))))");
        PartHouse x = new PartHouse();
        Check.keepRow(x, Check.LOADER, 1);
        Check.keepRow(x, Check.CONFIG, 2, 0, 16, 0, 16, 16, 0, 0, 1, 0, 1);
        Check.keepRow(x, 0, 5);
        Check.keepRow(x, 1, 5);
        x.boot();
        Check.due("R(0), R(1)", x.measure(0) * 10 + x.measure(1), 12);
        // What it is a HASH of can't be had; as many rounds as it has show how deep it is.
        PartHouse y = Check.booted(Check.alone(0), "ask 29\nback");
        y.run(1);
        Check.due("rounds", y.far(0, 1), 5);
        int[][] changes = {{0, 6}, {0, 5, 0}, {1, 6}, {8, 2}, {8, 1, 0}, {9, 2, 0, 16, 0, 16, 16, 0, 0, 1, 0, 2}};
        int next = 3;
        for (int[] change : changes) {
            x.off();
            Check.keepRow(x, change[0], Arrays.copyOfRange(change, 1, change.length));
            x.boot();
            int first = x.measure(0);
            int second = x.measure(1);
            boolean firstNew = change[0] != 1;
            boolean secondNew = change[0] != 0;
            Check.due("R(0) behind a change of " + change[0], first, firstNew ? next : 1);
            next += firstNew ? 1 : 0;
            Check.due("R(1) behind a change of " + change[0], second, secondNew ? next : 2);
            next += secondNew ? 1 : 0;
            x.off();
            Check.keepRow(x, Check.LOADER, 1);
            Check.keepRow(x, Check.CONFIG, 2, 0, 16, 0, 16, 16, 0, 0, 1, 0, 1);
            Check.keepRow(x, 0, 5);
            Check.keepRow(x, 1, 5);
            x.boot();
            Check.due("as it was", x.measure(0) * 10 + x.measure(1), 12);
        }
    }

    private static void slotsGoRound() {
        Check.about("SLOTS go round, each for its STEPS in ticks");
        String count = "x: addi r1, r1, 1\njump r0, x";
        int[] config = {3, 0, 16, 0, 16, 16, 0, 32, 16, 0, 0, 4, 1, 1, 255, 2, 0, 3, 2, 1};
        int[] turns = {1, -1, -1, 0, 0, 0, 2};
        for (int step = 1; step <= 5; step++) {
            PartHouse x = Check.booted(config, count, count, count);
            int[] done = new int[3];
            int tick = 0;
            for (int i = 0; i < 30; i++) {
                Check.due("run", x.run(step), step);
                for (int t = 0; t < step; t++) {
                    int who = turns[tick++ % turns.length];
                    if (who >= 0) {
                        done[who]++;
                    }
                }
                for (int p = 0; p < 3; p++) {
                    Check.due("r1 of " + p + " at " + tick, x.register(p, 1), (done[p] + 1) / 2);
                    Check.due("pc of " + p + " at " + tick, x.state(p, 0), done[p] % 2 * 4);
                }
            }
        }
    }

    private static void greatestSlots() {
        Check.about("each for its STEPS in ticks");
        String count = "x: addi r1, r1, 1\njump r0, x";
        PartHouse x = Check.booted(new int[] {2, 0, 16, 0, 16, 16, 0, 0, 2, 0, 1000, 1, 1000}, count, count);
        x.run(999);
        Check.due("0 alone", x.register(0, 1) * 1000 + x.register(1, 1), 500000);
        x.run(1);
        Check.due("0 alone yet", x.state(0, 0) * 1000 + x.state(1, 0), 0);
        x.run(1);
        Check.due("then 1", x.register(1, 1), 1);
        Check.due("0 stands", x.register(0, 1), 500);
        x.run(999);
        x.run(1);
        Check.due("and round", x.register(0, 1) * 1000 + x.register(1, 1), 501500);
        x = Check.booted(withSlots(32, 255, 1000), SPIN, SPIN);
        Check.due("nobody", x.run(2000), 2000);
        Check.due("ticks", x.told(2), 2000);
        // 32 slots: the last one's turn is one tick, then the first one's comes again.
        List<Integer> words = new ArrayList<>(List.of(2, 0, 16, 0, 16, 16, 0, 0, 32));
        for (int s = 0; s < 32; s++) {
            words.addAll(List.of(s == 31 ? 1 : 0, 1));
        }
        x = Check.booted(row(words), "addi r1, r1, 1\njump r0, -1", "addi r1, r1, 1\njump r0, -1");
        x.run(31);
        Check.due("31 of 0", x.register(0, 1) * 10 + x.register(1, 1), 160);
        x.run(1);
        Check.due("one of 1", x.register(0, 1) * 10 + x.register(1, 1), 161);
        x.run(32);
        Check.due("round", x.register(0, 1) * 10 + x.state(1, 0), 310);
    }

    private static void yields() {
        Check.about("did not YIELD in this SLOT's turn");
        String text = "x: addi r1, r0, 9\nask 0\naddi r5, r5, 1\njump r0, x";
        int[] config = {2, 0, 16, 0, 16, 16, 0, 0, 2, 0, 4, 0, 2};
        PartHouse x = Check.booted(config, text, text);
        // Turns of 4 and 2: addi ask - - | addi jump | addi ask - - | addi jump | ..
        int[] pcs = {4, 8, 8, 8, 12, 0, 4, 8, 8, 8, 12, 0, 4};
        for (int t = 0; t < pcs.length; t++) {
            x.run(1);
            Check.due("pc behind tick " + (t + 1), x.state(0, 0), pcs[t]);
        }
        Check.due("YIELD answers 0", x.register(0, 1), 9);
        x.run(1);
        Check.due("YIELD answers 0", x.register(0, 1), 0);
        // At the last tick of a turn: the next turn is not lost.
        x = Check.booted(new int[] {1, 0, 16, 0, 0, 1, 0, 2}, "addi r5, r5, 1\nask 0\njump r0, -2");
        x.run(3);
        Check.due("the next turn", x.state(0, 0), 0);
        x.run(1);
        Check.due("goes on", x.register(0, 5) * 10 + x.state(0, 0), 24);
        // Nor is it lost in the next boot, nor does a slot's turn go on there.
        x.off();
        x.boot();
        x.run(2);
        Check.due("YIELD again", x.state(0, 0), 8);
        x = Check.booted(new int[] {1, 0, 16, 0, 0, 1, 0, 9}, "addi r5, r5, 1\nask 0\njump r0, -2");
        x.run(4);
        x.off();
        x.boot();
        x.run(1);
        Check.due("a boot begins a turn", x.register(0, 5), 1);
        // One that yields keeps no other one from its turn.
        x = Check.booted(new int[] {2, 0, 16, 0, 16, 16, 0, 0, 2, 0, 10, 1, 10}, "ask 0", "addi r1, r1, 1\njump r0, -1");
        x.run(20);
        Check.due("the other one", x.register(1, 1), 5);
        Check.due("the one that yielded", x.state(0, 0), 4);
    }

    private static void tickOver() {
        Check.about("does one instruction (or has one TRAP); else nothing is done. A tick is over then, in any case");
        PartHouse x = Check.booted(new int[] {2, 0, 16, 0, 16, 16, 0, 0, 3, 0, 2, 255, 2, 1, 2}, "word 0", "ask 0\nask 4\nback");
        Check.due("halted, nobody, yielded", x.run(6), 6);
        Check.due("ticks", x.told(2), 6);
        Check.due("TRAP in a tick", x.state(0, 2), 1);
        Check.due("run", x.run(6), 6);
        Check.due("NOW", x.register(1, 1), 10);
        Check.due("off", x.off(), 12);
    }
}
