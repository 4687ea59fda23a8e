import java.util.ArrayDeque;
import java.util.ArrayList;
import java.util.Arrays;
import java.util.Deque;
import java.util.HashSet;
import java.util.List;
import java.util.Set;

/** Sections 3 to 8 of the document once more, in their plainest form, for ModelTest: a boot and what runs in it. */
final class PlainBoot {
    /** A TRAP, a refused ask, or (0) the power that goes: nothing of the instruction is done. */
    private static final class Stop extends Exception {
        private static final long serialVersionUID = 1;
        final int number;

        Stop(int number) {
            super(null, null, false, false);
            this.number = number;
        }
    }

    static final class Part {
        final int index;
        byte[] octets;
        final int[] registers = new int[16];
        int pc;
        int handler;
        int cause;
        int where;
        boolean halted;
        boolean inHandler;
        final List<PlainTerms.Term> table = new ArrayList<>();
        /** Words (Integer) and TERMS. */
        final List<Object> outputs = new ArrayList<>();
        final Deque<Integer> words = new ArrayDeque<>();
        final Deque<PlainTerms.Term> terms = new ArrayDeque<>();
        final List<PlainTerms.Term> secrets = new ArrayList<>();
        int seals;
        PlainTerms.Term measure;

        Part(int index) {
            this.index = index;
        }

        int word(int i) {
            int w = 0;
            for (int k = 3; k >= 0; k--) {
                w = w << 8 | octets[4 * i + k] & 255;
            }
            return w;
        }

        void setWord(int i, int w) {
            for (int k = 0; k < 4; k++) {
                octets[4 * i + k] = (byte) (w >> 8 * k);
            }
        }
    }

    record Block(int version, PlainTerms.Term term) {
    }

    private record Input(int tick, int part, Object what) {
    }

    private final PlainTerms terms;
    final PlainConfig config;
    private final List<Integer> loader;
    private final List<Integer> configRow;
    private final List<List<Integer>> images;
    final Part[] parts;
    final int[][] sent = new int[16][];
    final boolean[] unread = new boolean[16];
    final PlainTerms.Term[] sentTerms = new PlainTerms.Term[16];
    final Block[] disk;
    private final Block[] diskAtFirst;
    private final List<Input> inputs = new ArrayList<>();
    int ticks;
    /** The turns of SLOTS in which the partition did YIELD. */
    private final Set<Integer> yielded = new HashSet<>();
    boolean on = true;
    int writesLeft;
    int writes;
    /** Of a boot that is run again, what the past one was. */
    private PlainBoot past;

    PlainBoot(PlainTerms terms, PlainConfig config, Block[] disk, List<Integer> loader, List<Integer> configRow, List<List<Integer>> images) {
        this.terms = terms;
        this.config = config;
        this.disk = disk;
        this.diskAtFirst = disk.clone();
        this.loader = loader;
        this.configRow = configRow;
        this.images = images;
        parts = new Part[config.regions.size()];
        PlainTerms.Term l = terms.of(PlainTerms.HASH, terms.row(loader));
        PlainTerms.Term c = terms.of(PlainTerms.HASH, terms.row(configRow));
        PlainTerms.Term both = terms.of(PlainTerms.HASH, terms.of(PlainTerms.PAIR, l, c));
        for (int p = 0; p < parts.length; p++) {
            parts[p] = new Part(p);
            parts[p].octets = new byte[4 * config.regions.get(p).size()];
            for (int i = 0; i < images.get(p).size(); i++) {
                parts[p].setWord(i, images.get(p).get(i));
            }
            PlainTerms.Term image = terms.of(PlainTerms.HASH, terms.row(images.get(p)));
            PlainTerms.Term its = terms.of(PlainTerms.PAIR, terms.number(p), image);
            parts[p].measure = terms.of(PlainTerms.HASH, terms.of(PlainTerms.PAIR, both, its));
        }
    }

    int inputs() {
        return inputs.size();
    }

    void input(int p, Object what) {
        inputs.add(new Input(ticks, p, what));
        if (what instanceof Integer w) {
            parts[p].words.add(w);
        } else if (what instanceof PlainTerms.Term t) {
            parts[p].terms.add(t);
        }
    }

    /** PURGING for p: whether p is as it was. */
    boolean purges(int p) {
        Block[] left = diskAtFirst.clone();
        PlainBoot again = new PlainBoot(terms, config, left, loader, configRow, images);
        again.past = this;
        for (int q = 0; q < parts.length; q++) {
            if (!config.leads(q, p)) {
                again.parts[q].halted = true;
                PlainConfig.Region region = config.regions.get(q);
                Arrays.fill(left, 2 * region.areasBefore(), 2 * (region.areasBefore() + region.area()), null);
            }
        }
        for (int tick = 0; tick <= ticks; tick++) {
            for (Input input : inputs) {
                if (input.tick == tick && config.leads(input.part, p)) {
                    again.input(input.part, input.what);
                }
            }
            if (tick < ticks) {
                again.tick();
            }
        }
        Part then = parts[p];
        Part now = again.parts[p];
        return now.outputs.equals(then.outputs) && now.pc == then.pc && Arrays.equals(now.registers, then.registers);
    }

    /** Whether the tick was over. */
    boolean tick() {
        int round = config.slots.stream().mapToInt(PlainConfig.Slot::steps).sum();
        int left = ticks % round;
        int slot = 0;
        while (left >= config.slots.get(slot).steps()) {
            left -= config.slots.get(slot).steps();
            slot++;
        }
        int who = config.slots.get(slot).who();
        int turn = ticks / round * 32 + slot;
        if (who != 255 && !parts[who].halted && !yielded.contains(turn)) {
            instruction(parts[who], turn);
        }
        ticks += on ? 1 : 0;
        return on;
    }

    private void instruction(Part part, int turn) {
        try {
            doInstruction(part, turn);
        } catch (Stop trap) {
            if (trap.number == 0) {
                return;
            }
            part.cause = trap.number;
            part.where = part.pc;
            if (part.handler == 0 || part.inHandler) {
                part.halted = true;
            } else {
                part.pc = part.handler;
                part.inHandler = true;
            }
        }
    }

    /** M. */
    static int signed(int w) {
        int m = w & 0x3FFFF;
        return m >= 0x20000 ? m - 0x40000 : m;
    }

    /** How many octets 22 to 29 load or store. */
    static int octets(int op) {
        return new int[] {4, 2, 2, 1, 1, 4, 2, 1}[op - 22];
    }

    private void doInstruction(Part part, int turn) throws Stop {
        if (part.pc < 0 || part.pc >= part.octets.length || part.pc % 4 != 0) {
            throw new Stop(4);
        }
        int w = part.word(part.pc / 4);
        int op = w >>> 26;
        int m = signed(w);
        int d = w >>> 22 & 15;
        int rd = part.registers[d];
        int ra = part.registers[w >>> 18 & 15];
        int next = part.pc + 4;
        if (op >= 1 && op <= 11) {
            set(part, d, reckoned(op, ra, part.registers[w >>> 14 & 15]));
        } else if (op >= 12 && op <= 20) {
            // There is no sub with M.
            set(part, d, reckoned(op == 12 ? 1 : op - 10, ra, m));
        } else if (op == 21) {
            set(part, d, (w & 0x3FFFF) * 16384);
        } else if (op >= 22 && op <= 29) {
            access(part, op, d, ra + m);
        } else if (op >= 30 && op <= 35) {
            next = goes(op, rd, ra) ? part.pc + 4 * m : next;
        } else if (op == 36) {
            set(part, d, next);
            next = part.pc + 4 * m;
        } else if (op == 37) {
            set(part, d, next);
            next = ra + m;
        } else if (op == 38 && m >= 0 && m <= 34) {
            ask(part, m, turn);
        } else if (op == 39 && part.inHandler) {
            next = part.where + 4;
            part.inHandler = false;
        } else {
            throw new Stop(1);
        }
        part.pc = next;
    }

    private static void set(Part part, int register, int value) {
        part.registers[register] = register == 0 ? 0 : value;
    }

    private static int reckoned(int op, int x, int y) {
        long unsigned = x & 0xFFFFFFFFL;
        int shift = y & 31;
        return switch (op) {
            case 1 -> (int) ((long) x + y);
            case 2 -> (int) ((long) x - y);
            case 3 -> x & y;
            case 4 -> x | y;
            case 5 -> x ^ y;
            case 6 -> (int) (unsigned << shift);
            case 7 -> (int) (unsigned >> shift);
            case 8 -> (int) ((long) x >> shift);
            case 9 -> Integer.compare(x, y) < 0 ? 1 : 0;
            case 10 -> Integer.compareUnsigned(x, y) < 0 ? 1 : 0;
            default -> (int) ((long) x * y);
        };
    }

    private static boolean goes(int op, int x, int y) {
        return switch (op) {
            case 30 -> x == y;
            case 31 -> x != y;
            case 32 -> Integer.compare(x, y) < 0;
            case 33 -> Integer.compare(x, y) >= 0;
            case 34 -> Integer.compareUnsigned(x, y) < 0;
            default -> Integer.compareUnsigned(x, y) >= 0;
        };
    }

    private static void access(Part part, int op, int d, int address) throws Stop {
        int n = octets(op);
        if (Math.floorMod(address, n) != 0) {
            throw new Stop(3);
        }
        for (long a = address; a < (long) address + n; a++) {
            if (a < 0 || a >= part.octets.length) {
                throw new Stop(2);
            }
        }
        if (op >= 27) {
            for (int k = 0; k < n; k++) {
                part.octets[address + k] = (byte) (part.registers[d] >> 8 * k);
            }
            return;
        }
        long value = 0;
        for (int k = 0; k < n; k++) {
            value += (part.octets[address + k] & 255L) << 8 * k;
        }
        boolean withSign = op == 22 || op == 23 || op == 25;
        if (withSign && value >> 8 * n - 1 == 1) {
            value -= 1L << 8 * n;
        }
        set(part, d, (int) value);
    }

    private void ask(Part part, int number, int turn) throws Stop {
        int[] r = part.registers;
        try {
            if (number == 5) {
                r[2] = part.words.isEmpty() ? 0 : 1;
                r[1] = part.words.isEmpty() ? 0 : part.words.remove();
            } else if (number == 23) {
                boolean is = r[1] >= 1 && r[1] <= part.table.size() && part.table.get(r[1] - 1).kind == PlainTerms.NUMBER;
                r[1] = is ? part.table.get(r[1] - 1).word : 0;
                r[2] = is ? 1 : 0;
            } else if (number == 0) {
                yielded.add(turn);
                r[1] = 0;
            } else if (number <= 12) {
                r[1] = number <= 6 ? plain(part, number) : carried(part, number);
            } else if (number <= 28) {
                r[1] = come(part, number);
            } else {
                r[1] = kept(part, number);
            }
        } catch (Stop refused) {
            if (refused.number == 0) {
                throw refused;
            }
            r[1] = refused.number;
        }
    }

    private static void unless(boolean holds, int refusal) throws Stop {
        if (!holds) {
            throw new Stop(refusal);
        }
    }

    private int plain(Part part, int number) throws Stop {
        int r1 = part.registers[1];
        switch (number) {
            case 1:
                unless(r1 >= 0 && r1 <= part.octets.length - 4 && r1 % 4 == 0, -2);
                part.handler = r1;
                return 0;
            case 2:
                return part.cause;
            case 3:
                return part.where;
            case 4:
                return ticks;
            default:
                unless(part.outputs.size() < 200, -4);
                part.outputs.add(r1);
                return 0;
        }
    }

    private PlainConfig.Channel channel(Part part, boolean sends) throws Stop {
        int c = part.registers[1];
        unless(c >= 0 && c < config.channels.size(), -1);
        PlainConfig.Channel channel = config.channels.get(c);
        unless((sends ? channel.from() : channel.to()) == part.index, -1);
        return channel;
    }

    private static int firstWord(Part part, int length) throws Stop {
        long address = part.registers[2];
        unless(address % 4 == 0 && address >= 0 && address + 4L * length <= part.octets.length, -2);
        return (int) address / 4;
    }

    private int carried(Part part, int number) throws Stop {
        int c = part.registers[1];
        switch (number) {
            case 7: {
                int length = channel(part, true).length();
                int first = firstWord(part, length);
                sent[c] = new int[length];
                for (int i = 0; i < length; i++) {
                    sent[c][i] = part.word(first + i);
                }
                unread[c] = true;
                return 0;
            }
            case 8: {
                int length = channel(part, false).length();
                int first = firstWord(part, length);
                for (int i = 0; i < length; i++) {
                    part.setWord(first + i, sent[c] == null ? 0 : sent[c][i]);
                }
                boolean fresh = unread[c];
                unread[c] = false;
                return fresh ? 1 : 0;
            }
            case 9:
                channel(part, true);
                sentTerms[c] = held(part, 2);
                return 0;
            case 10:
                channel(part, false);
                return sentTerms[c] == null ? 0 : handle(part, sentTerms[c]);
            case 11: {
                PlainTerms.Term out = held(part, 1);
                unless(part.outputs.size() < 200, -4);
                part.outputs.add(out);
                counts(out);
                return 0;
            }
            default: {
                int h = part.terms.isEmpty() ? 0 : handle(part, part.terms.peek());
                part.terms.poll();
                return h;
            }
        }
    }

    /** What is run again does not count for KNOWN. */
    private void counts(PlainTerms.Term t) {
        if (past == null) {
            terms.gone.add(t);
        }
    }

    /** The TERM of the HANDLE in a register. */
    private static PlainTerms.Term held(Part part, int register) throws Stop {
        int h = part.registers[register];
        unless(h >= 1 && h <= part.table.size(), -2);
        return part.table.get(h - 1);
    }

    /** A TERM COMES INTO the TABLE. */
    private static int handle(Part part, PlainTerms.Term t) throws Stop {
        if (!part.table.contains(t)) {
            unless(part.table.size() < 100, -4);
            part.table.add(t);
        }
        return part.table.indexOf(t) + 1;
    }

    private int come(Part part, int number) throws Stop {
        if (number == 13) {
            return handle(part, terms.number(part.registers[1]));
        }
        if (number == 21) {
            unless(part.table.size() < 100, -4);
            part.secrets.add(nextSecret(part));
            return handle(part, part.secrets.get(part.secrets.size() - 1));
        }
        int[] kinds = {PlainTerms.PAIR, PlainTerms.HASH, PlainTerms.KEYED, PlainTerms.PUBLIC, PlainTerms.SIGNED, PlainTerms.CLOSED, PlainTerms.DERIVED};
        if (number <= 20) {
            PlainTerms.Term[] of = new PlainTerms.Term[PlainTerms.needs(kinds[number - 14])];
            for (int i = 0; i < of.length; i++) {
                of[i] = held(part, i + 1);
            }
            return handle(part, terms.of(kinds[number - 14], of));
        }
        return looked(part, number);
    }

    private PlainTerms.Term nextSecret(Part part) {
        int i = part.secrets.size();
        boolean had = past != null && i < past.parts[part.index].secrets.size();
        return had ? past.parts[part.index].secrets.get(i) : terms.secret();
    }

    private int looked(Part part, int number) throws Stop {
        PlainTerms.Term first = held(part, 1);
        switch (number) {
            case 22:
                return first.kind;
            case 24:
            case 25:
                unless(first.kind == PlainTerms.PAIR, -3);
                return handle(part, first.parts.get(number - 24));
            case 26:
                unless(first.kind == PlainTerms.SIGNED, -3);
                return handle(part, first.parts.get(1));
            case 27: {
                PlainTerms.Term signed = held(part, 2);
                boolean fit = first.kind == PlainTerms.PUBLIC && signed.kind == PlainTerms.SIGNED;
                return fit && first.parts.get(0) == signed.parts.get(0) ? 1 : 0;
            }
            default: {
                PlainTerms.Term closed = held(part, 2);
                unless(closed.kind == PlainTerms.CLOSED && closed.parts.get(0) == first, -3);
                return handle(part, closed.parts.get(2));
            }
        }
    }

    private int kept(Part part, int number) throws Stop {
        switch (number) {
            case 29:
                return handle(part, part.measure);
            case 30: {
                PlainTerms.Term said = terms.of(PlainTerms.PAIR, part.measure, held(part, 1));
                return handle(part, terms.of(PlainTerms.SIGNED, terms.quoteKey, said));
            }
            case 31:
                return handle(part, terms.of(PlainTerms.PUBLIC, terms.quoteKey));
            default:
                return blob(part, number);
        }
    }

    private int blob(Part part, int number) throws Stop {
        int b = part.registers[1];
        PlainConfig.Region region = config.regions.get(part.index);
        unless(b >= 0 && b < region.area(), -1);
        int first = 2 * (region.areasBefore() + b);
        Block counts = null;
        for (int i = first; i <= first + 1; i++) {
            if (disk[i] != null && isRight(part, b, disk[i]) && (counts == null || disk[i].version > counts.version)) {
                counts = disk[i];
            }
        }
        if (number == 34) {
            return counts == null ? 0 : counts.version;
        }
        if (number == 33) {
            unless(counts != null, -3);
            return handle(part, counts.term.parts.get(2));
        }
        PlainTerms.Term sealed = held(part, 2);
        unless(part.seals < 40, -4);
        int v = counts == null ? 1 : counts.version + 1;
        write(first + v % 2, new Block(v, sealedTerm(part, b, v, sealed)));
        part.seals++;
        return v;
    }

    private PlainTerms.Term sealedTerm(Part part, int b, int v, PlainTerms.Term a) {
        PlainTerms.Term place = terms.of(PlainTerms.PAIR, terms.number(b), terms.number(v));
        return terms.of(PlainTerms.CLOSED, terms.of(PlainTerms.DERIVED, terms.deviceKey, part.measure), place, a);
    }

    private boolean isRight(Part part, int b, Block block) {
        return block.term.kind == PlainTerms.CLOSED
            && block.term == sealedTerm(part, b, block.version, block.term.parts.get(2));
    }

    private void write(int i, Block block) throws Stop {
        writes++;
        if (writesLeft == 1) {
            disk[i] = null;
            on = false;
            throw new Stop(0);
        }
        writesLeft = Math.max(0, writesLeft - 1);
        disk[i] = block;
        counts(block.term);
    }
}
