import java.util.HashSet;
import java.util.Random;
import java.util.Set;
import java.util.function.ToIntFunction;

/** The section Terms, sentence by sentence, at its boundaries. */
public final class TermEdgeTest {
    public static void main(String[] args) {
        sameness();
        manyTerms();
        secrets();
        rows();
        nextHandle();
        partitionTable();
        outsideTable();
        deviceKeys();
        roundZero();
        earlierBoots();
        takenApart();
        closed();
        putTogether();
        manyUsers();
        manyRounds();
        neverKnown();
        Check.end("TermEdgeTest");
    }

    private static void sameness() {
        Check.about("TERMS are the same just when they are of one kind and of the same");
        PartHouse x = new PartHouse();
        int[] words = {0, 1, -1, Integer.MAX_VALUE, Integer.MIN_VALUE, 65536};
        for (int i = 0; i < words.length; i++) {
            Check.due("NUMBER " + words[i], x.make(0, words[i], 0, 0), i + 1);
        }
        for (int i = 0; i < words.length; i++) {
            Check.due("NUMBER " + words[i] + " again", x.make(0, words[i], 7, 7), i + 1);
        }
        int next = words.length + 1;
        // Of like parts, in all orders, each kind is another TERM.
        for (int round = 0; round < 2; round++) {
            int h = next;
            for (int kind : new int[] {3, 5, 7, 9}) {
                Check.due("of 1, 2", x.make(kind, 1, 2, 0), h++);
                Check.due("of 2, 1", x.make(kind, 2, 1, 0), h++);
                Check.due("of 1, 1", x.make(kind, 1, 1, 0), h++);
            }
            Check.due("HASH", x.make(4, 1, 2, 0), h++);
            Check.due("PUBLIC", x.make(6, 1, 2, 0), h++);
            for (int[] parts : new int[][] {{1, 2, 3}, {1, 3, 2}, {2, 1, 3}, {2, 3, 1}, {3, 1, 2}, {3, 2, 1}, {1, 1, 2}, {1, 2, 1}, {2, 1, 1}, {1, 1, 1}}) {
                Check.due("CLOSED", x.make(8, parts[0], parts[1], parts[2]), h++);
            }
            // PAIR(1, PAIR(1, 2)) is not PAIR(PAIR(1, 1), 2).
            Check.due("PAIR to the right", x.make(3, 1, next, 0), h++);
            Check.due("PAIR to the left", x.make(3, next + 2, 2, 0), h++);
            Check.due("HASH of a HASH", x.make(4, next + 12, 0, 0), h++);
        }
        for (int h = 1; h <= x.told(6); h++) {
            for (int g = 1; g <= x.told(6); g++) {
                Check.due("same " + h + " " + g, x.same(-1, h, -1, g), h == g ? 1 : 0);
            }
        }
    }

    private static void manyTerms() {
        PartHouse x = new PartHouse();
        Random random = new Random(23);
        Set<Integer> seen = new HashSet<>();
        int[] words = new int[250];
        for (int i = 0; i < words.length; i++) {
            words[i] = i % 2 == 0 ? random.nextInt() : 4096 * i;
            words[i] = seen.add(words[i]) ? words[i] : -i;
            Check.due("NUMBER " + words[i], x.make(0, words[i], 0, 0), i + 1);
        }
        for (int i = 0; i < words.length; i++) {
            Check.due("NUMBER " + words[i] + " again", x.make(0, words[i], 0, 0), i + 1);
        }
    }

    private static void secrets() {
        Check.about("SECRET s (2; s a name that nothing else has)");
        String text = "ask 21\nask 11\nask 21\nask 11\nback";
        PartHouse x = Check.booted(new int[] {2, 0, 16, 0, 16, 16, 0, 0, 2, 0, 3, 1, 3}, text, text);
        x.run(6);
        for (int i = 1; i <= 3; i++) {
            Check.due("make", x.make(2, 5, 5, 5), i);
        }
        Check.due("what went out", x.output(0, 0, 1) * 10 + x.output(1, 0, 1), 45);
        int[][] all = {{0, 1}, {0, 2}, {1, 1}, {1, 2}, {-1, 1}, {-1, 2}, {-1, 3}};
        for (int[] a : all) {
            for (int[] b : all) {
                Check.due("same", x.same(a[0], a[1], b[0], b[1]), a == b ? 1 : 0);
            }
        }
        // In another boot they are others; what the outside holds tells it.
        x.off();
        x.boot();
        x.run(6);
        for (int p = 0; p < 2; p++) {
            for (int h = 1; h <= 5; h++) {
                Check.due("one of before", x.same(p, 1, -1, h) + x.same(p, 2, -1, h), 0);
            }
        }
    }

    /** ROWS show in MEASURES alone. */
    private static void rows() {
        Check.about("ROW r (1; r a row of words)");
        int[][] loaders = {{1}, {0}, {1, 0}, {0, 1}, {0, 31}, {1, 1}, {1, 1, 1}, {31, 0}, {-1}, {Integer.MIN_VALUE}, {0, 0}, {0, 0, 0}};
        PartHouse x = Check.house(Check.alone(0), "back");
        for (int round = 0; round < 2; round++) {
            for (int i = 0; i < loaders.length; i++) {
                Check.keepRow(x, Check.LOADER, loaders[i]);
                x.boot();
                x.off();
                Check.due("measure with loader " + i, x.measure(0), i + 1);
            }
        }
    }

    private static void nextHandle() {
        Check.about("a TERM that COMES INTO it has the HANDLE that it has there already, else the next one");
        new Script().ask(13, 1, 7).ask(13, 2, 8).ask(13, 1, 7).ask(13, 2, 8).ask(21, 3).ask(14, 4, 1, 3).ask(24, 1, 4)
            .ask(25, 3, 4).ask(13, 5, 9).ask(29, 6).ask(29, 6).ask(31, 7).ask(31, 7).ask(30, 8, 1).ask(30, 8, 1).runs();
        PartHouse x = new PartHouse();
        Check.due("1", x.make(0, 5, 0, 0), 1);
        Check.due("2", x.make(3, 1, 1, 0), 2);
        Check.due("there already", x.take(2, 0, 0), 1);
        Check.due("there already", x.take(2, 1, 0), 1);
        Check.due("3", x.make(2, 0, 0, 0), 3);
        Check.due("handles", x.told(6), 3);
        // TERMS that came up far apart, in turn, to a TABLE that fills up.
        PartHouse y = Check.booted(Check.alone(0), "ask 12\nadd r5, r1, r0\njump r0, -2");
        for (int i = 1; i <= 450; i++) {
            y.make(0, 5000 + i, 0, 0);
        }
        int next = 1;
        int[] handles = new int[451];
        for (int round = 0; round < 3; round++) {
            for (int i = 1; i <= 30; i++) {
                for (int h : new int[] {i, 128 + i, 256 + i}) {
                    handles[h] = handles[h] == 0 ? next++ : handles[h];
                    y.inputTerm(0, h);
                    y.run(3);
                    Check.due("HANDLE of " + h, y.register(0, 5), handles[h]);
                    Check.due("the same", y.same(0, handles[h], -1, h), 1);
                }
            }
        }
        Check.due("handles", y.state(0, 6), 90);
    }

    /** The asks that answer a TERM, with registers as the image below has its HANDLES. */
    private static final int[][] TERM_ASKS = {{10, 0}, {12}, {13, 7}, {14, 1, 2}, {15, 1}, {16, 1, 2}, {17, 1}, {18, 1, 2}, {19, 1, 2, 3},
        {20, 1, 2}, {21}, {24, 1}, {25, 1}, {26, 2}, {28, 4, 3}, {29}, {30, 1}, {31}, {33, 0}};

    private static void partitionTable() {
        Check.about("Each partition has a TABLE of at most 100");
        for (int[] ask : TERM_ASKS) {
            Check.about("A TERM that is answered COMES INTO its TABLE (- 4: it would be the 101st)");
            PartHouse x = filled(ask, 99);
            Check.due("ask " + ask[0] + " with 99", x.register(0, 5), 100);
            Check.due("handles", x.state(0, 6), 100);
            int again = ask[0] == 21 ? -4 : ask[0] == 12 ? 0 : 100;
            Check.due("ask " + ask[0] + " again", x.register(0, 6), again);
            x = filled(ask, 100);
            Check.due("ask " + ask[0] + " with 100", x.register(0, 5), -4);
            Check.due("handles", x.state(0, 6), 100);
            Check.due("ask " + ask[0] + " with 100 again", x.register(0, 6), -4);
            Check.due("what waits", x.state(0, 9), ask[0] == 12 ? 1 : 0);
            Check.due("there is a 100th", x.same(0, 100, 0, 100), 1);
            Check.due("and no 101st", x.same(0, 101, 0, 101), -1);
        }
    }

    /** Partition 0 has so many HANDLES when it asks; r5 and r6 are what it was answered, twice. */
    private static PartHouse filled(int[] ask, int handles) {
        StringBuilder text = new StringBuilder("ask 5\nbne r1, r0, seal\nask 12\nask 12\nask 12\nask 12\n");
        for (int i = 4; i < handles; i++) {
            text.append("addi r1, r0, ").append(4 + 1000 * i).append("\nask 13\n");
        }
        for (int target = 5; target <= 6; target++) {
            for (int r = 1; r < ask.length; r++) {
                text.append("addi r" + r + ", r0, " + ask[r] + "\n");
            }
            text.append("ask " + ask[0] + "\nadd r" + target + ", r1, r0\n");
        }
        text.append("jump r0, 0\nseal: addi r1, r0, 888\nask 13\nadd r2, r1, r0\naddi r1, r0, 0\nask 32\njump r0, 0");
        String other = "addi r1, r0, 999\nask 13\nadd r2, r1, r0\naddi r1, r0, 0\nask 9\njump r0, 0";
        PartHouse x = Check.booted(new int[] {2, 0, 1024, 1, 1024, 16, 0, 1, 1, 0, 1, 2, 1, 10, 0, 1000}, text.toString(), other);
        x.input(0, 1);
        x.run(30);
        Check.due("sealed", x.state(0, 10), 1);
        x.off();
        x.make(0, 1, 0, 0);
        x.make(0, 2, 0, 0);
        x.make(2, 0, 0, 0);
        x.make(3, 1, 2, 0);
        x.make(7, 3, 1, 0);
        x.make(8, 3, 2, 1);
        x.boot();
        for (int h : new int[] {4, 5, 6, 3}) {
            x.inputTerm(0, h);
        }
        if (ask[0] == 12) {
            x.inputTerm(0, 1);
        }
        x.run(1000);
        return x;
    }

    /** Each call that tells a TERM to the OUTSIDE, and what comes in by it. */
    private static void outsideTable() {
        Check.about("the OUTSIDE one of at most 600");
        told("make a NUMBER", x -> x.make(0, 5, 0, 0));
        told("make a PAIR", x -> x.make(3, 1, 2, 0));
        told("make a HASH", x -> x.make(4, 1, 0, 0));
        told("make a KEYED", x -> x.make(5, 1, 2, 0));
        told("make a PUBLIC", x -> x.make(6, 1, 0, 0));
        told("make a SIGNED", x -> x.make(7, 1, 2, 0));
        told("make a CLOSED", x -> x.make(8, 1, 2, 3));
        told("make a DERIVED", x -> x.make(9, 1, 2, 0));
        told("take the first", x -> x.take(5, 0, 0));
        told("take the second", x -> x.take(1, 1, 0));
        told("take of SIGNED", x -> x.take(2, 2, 0));
        told("take n", x -> x.take(3, 3, 0));
        told("take of CLOSED", x -> x.take(3, 4, 4));
        told("output", x -> x.output(0, 5, 1));
        told("block", x -> x.block(1, 1));
        told("measure", x -> x.measure(0));
        PartHouse x = outsideWith(599);
        Check.due("make a SECRET", x.make(2, 0, 0, 0), 600);
        Check.refused(x, "make a SECRET of 601", () -> x.make(2, 0, 0, 0), -4);
        Check.due("what was there is told yet", x.output(0, 0, 1), 1);
        Check.due("a word is no TERM", x.output(0, 6, 1), 77);
        Check.due("an empty block", x.block(0, 1), 0);
        Check.due("take of what is there", x.take(1, 0, 0), 4);
    }

    private static void told(String call, ToIntFunction<PartHouse> tells) {
        Check.about("(A TERM that is told to the OUTSIDE COMES INTO its TABLE; -4: it would be the 601st.)");
        PartHouse x = outsideWith(599);
        Check.due(call + " as the 600th", tells.applyAsInt(x), 600);
        Check.due(call + " again", tells.applyAsInt(x), 600);
        Check.due("handles", x.told(6), 600);
        Check.due("it is known", x.far(-1, 600), 0);
        PartHouse y = outsideWith(600);
        Check.refused(y, call + " as the 601st", () -> tells.applyAsInt(y), -4);
    }

    /** HANDLES 1 to 5: PAIR(s, t), SIGNED(s, t), CLOSED(s, t, u), s, PAIR(t, s); then NUMBERS. Output 5 is u, output 6 a word. */
    private static PartHouse outsideWith(int handles) {
        Script s = new Script().silent(21).silent(21).silent(21).silent(14, 1, 2).silent(18, 1, 2).silent(19, 1, 2, 3).silent(14, 2, 1);
        for (int out : new int[] {4, 5, 6, 1, 7, 3}) {
            s.silent(11, out);
        }
        s.silent(6, 77).silent(32, 0, 3);
        PartHouse x = Check.booted(new int[] {1, 0, 64, 1, 0, 1, 0, 1000}, s.image());
        x.run(s.ticks());
        for (int i = 0; i < 5; i++) {
            Check.due("output", x.output(0, i, 1), i + 1);
        }
        for (int i = 6; i <= handles; i++) {
            x.make(0, 1000 + i, 0, 0);
        }
        Check.due("handles", x.told(6), handles);
        return x;
    }

    private static void deviceKeys() {
        Check.about("DK is SECRET 0, QK is DERIVED(DK, NUMBER 1)");
        // Handles of 0: 1 NUMBER 1, 2 SECRET, 3 DERIVED(2, 1), 4 PUBLIC(3), 5 PUBLIC(QK), 6 quote, 7 SIGNED(3, 1).
        Script s = new Script().ask(13, 1, 1).ask(21, 2).ask(20, 3, 2, 1).ask(17, 4, 3).ask(31, 5).ask(30, 6, 1).ask(18, 7, 3, 1)
            .ask(27, 1, 5, 6).ask(27, 0, 4, 6).ask(27, 1, 4, 7).ask(27, 0, 5, 7).ask(22, 6, 5).ask(22, 7, 6);
        PartHouse x = s.runs();
        Check.due("a SECRET is not DK", x.same(0, 4, 0, 5), 0);
        Check.due("make", x.make(2, 0, 0, 0), 1);
        Check.due("make", x.make(0, 1, 0, 0), 2);
        Check.due("make", x.make(9, 1, 2, 0), 3);
        Check.due("make", x.make(6, 3, 0, 0), 4);
        Check.due("nor is the outside's first", x.same(-1, 4, 0, 5), 0);
        Check.due("PUBLIC(QK) is known", x.far(0, 5), 0);
        Check.due("what QK signed is not", x.knows(0, 6), 0);
    }

    /** Runs a script, and looks at how far its HANDLES are. */
    private static PartHouse far(String what, Script s, int... rounds) {
        PartHouse x = s.runs();
        far(x, what, rounds);
        return x;
    }

    private static void far(PartHouse x, String what, int... rounds) {
        Check.due(what + ": handles", x.state(0, 6), rounds.length);
        for (int h = 1; h <= rounds.length; h++) {
            Check.due(what + ": far of " + h, x.far(0, h), rounds[h - 1]);
            Check.due(what + ": knows " + h, x.knows(0, h), rounds[h - 1] < 0 ? 0 : 1);
        }
    }

    private static void roundZero() {
        Check.about("ROUND 0 has all NUMBERS and ROWS, PUBLIC(QK), all of the OUTSIDE's TABLE, each TERM that went out (OUT TERM)");
        far("NUMBERS and PUBLIC(QK)", new Script().silent(13, 0).silent(13, -1).silent(31), 0, 0, 0);
        far("a SECRET", new Script().silent(21), -3);
        far("a SECRET that went out", new Script().silent(21).silent(21).silent(11, 2), -3, 0);
        // HASH of a ROW is round 1, so R(p) is 5: HASH(PAIR(HASH(PAIR(L, C)), PAIR(p, HASH))).
        PartHouse x = far("R(p)", new Script().silent(29), 5);
        x.measure(0);
        far(x, "R(p), told", 0);
        x = Check.booted(Check.alone(0), "ask 12\nask 15\nback");
        x.make(2, 0, 0, 0);
        x.inputTerm(0, 1);
        x.run(3);
        far(x, "of the OUTSIDE's TABLE", 0, 1);
        x = Check.booted(Check.alone(0), "ask 21\nask 11\njump r0, 0");
        x.run(1);
        far(x, "before it went out", -3);
        x.run(1);
        far(x, "when it went out", 0);
        x.off();
        far(x, "OFF", 0);
        // One that could not go out: it has 200 outputs.
        x = Check.booted(Check.alone(0), "ask 21\nx: ask 6\naddi r5, r5, 1\naddi r6, r0, 200\nbne r5, r6, x\naddi r1, r0, 1\nask 11\nback");
        x.run(810);
        Check.due("OUT TERM", x.register(0, 1), -4);
        far(x, "refused", -3);
    }

    private static void earlierBoots() {
        Check.about("in any boot");
        for (int out = 0; out <= 1; out++) {
            // Seals a SECRET, and puts it out or not; another boot unseals it.
            String text = "addi r1, r0, 0\nask 33\naddi r2, r0, 1\nbeq r1, r2, 0\nask 21\nadd r2, r1, r0\naddi r1, r0, 0\nask 32\n"
                + "addi r1, r0, 1\nask " + (out == 1 ? 11 : 22) + "\nback";
            PartHouse x = Check.booted(Check.alone(1), text);
            x.run(20);
            Check.due("sealed", x.state(0, 10), 1);
            far(x, "in the first boot", out == 1 ? 0 : -3);
            for (int boots = 2; boots <= 3; boots++) {
                x.off();
                x.boot();
                x.run(20);
                Check.due("no seal", x.state(0, 10) + x.told(6), 0);
                far(x, "in boot " + boots, out == 1 ? 0 : -3);
            }
        }
    }

    private static void takenApart() {
        Check.about("of PAIR(a, b) both a and b; of SIGNED(k, a) a");
        far("PAIR", new Script().silent(21).silent(21).silent(14, 1, 2).silent(11, 3), 1, 1, 0);
        far("PAIR of PAIR", new Script().silent(21).silent(21).silent(14, 1, 2).silent(14, 3, 1).silent(11, 4), 1, 2, 1, 0);
        far("SIGNED", new Script().silent(21).silent(21).silent(18, 1, 2).silent(11, 3), -3, 1, 0);
        far("KEYED", new Script().silent(21).silent(21).silent(16, 1, 2).silent(11, 3), -3, -3, 0);
        far("HASH", new Script().silent(21).silent(15, 1).silent(11, 2), -3, 0);
        far("PUBLIC", new Script().silent(21).silent(17, 1).silent(11, 2), -3, 0);
        far("DERIVED", new Script().silent(21).silent(21).silent(20, 1, 2).silent(11, 3), -3, -3, 0);
        far("a quote", new Script().silent(21).silent(29).silent(30, 1).silent(31).silent(11, 3), 2, 2, 0, 0);
    }

    private static void closed() {
        Check.about("of CLOSED(k, n, a) n, and, if it has k, a");
        Script base = new Script().silent(21).silent(21).silent(21).silent(19, 1, 2, 3);
        far("nothing out", base, -3, -3, -3, -3);
        far("CLOSED out", new Script().silent(21).silent(21).silent(21).silent(19, 1, 2, 3).silent(11, 4), -3, 1, -3, 0);
        far("k too", new Script().silent(21).silent(21).silent(21).silent(19, 1, 2, 3).silent(11, 4).silent(11, 1), 0, 1, 1, 0);
        far("k alone", new Script().silent(21).silent(21).silent(21).silent(19, 1, 2, 3).silent(11, 1), 0, -3, -3, -3);
        far("k in round 1", new Script().silent(21).silent(21).silent(21).silent(19, 1, 2, 3).silent(14, 1, 1).silent(11, 4).silent(11, 5),
            1, 1, 2, 0, 0);
        far("k in round 2", new Script().silent(21).silent(21).silent(21).silent(19, 1, 2, 3).silent(14, 1, 1).silent(14, 5, 5)
            .silent(11, 4).silent(11, 6), 2, 1, 3, 0, 1, 0);
        far("CLOSED in round 1, k in 0", new Script().silent(21).silent(21).silent(21).silent(19, 1, 2, 3).silent(14, 4, 4)
            .silent(11, 1).silent(11, 5), 0, 2, 2, 1, 0);
        far("both in round 1", new Script().silent(21).silent(21).silent(21).silent(19, 1, 2, 3).silent(14, 4, 1).silent(11, 5),
            1, 2, 2, 1, 0);
        far("k is n", new Script().silent(21).silent(21).silent(19, 1, 1, 2).silent(11, 3), 1, 2, 0);
        far("k is a", new Script().silent(21).silent(21).silent(19, 1, 2, 1).silent(11, 3), -3, 1, 0);
        far("n is a", new Script().silent(21).silent(21).silent(19, 1, 2, 2).silent(11, 3), -3, 1, 0);
        far("k is put together", new Script().silent(13, 5).silent(15, 1).silent(15, 2).silent(21).silent(19, 3, 1, 4).silent(11, 5),
            0, 1, 2, 3, 0);
        // A key that is had by another one that opens: 1 opens 5, in which 2 is, which opens 6.
        far("one by another", new Script().silent(21).silent(21).silent(21).silent(13, 0).silent(19, 1, 4, 2).silent(19, 2, 4, 3)
            .silent(11, 1).silent(11, 5).silent(11, 6), 0, 1, 2, 0, 0, 0);
    }

    private static void putTogether() {
        Check.about("each PAIR, HASH, KEYED, PUBLIC, SIGNED, CLOSED, DERIVED of TERMS that it has");
        Script known = new Script().silent(13, 1).silent(13, 2).silent(13, 3).silent(14, 1, 2).silent(15, 1).silent(16, 1, 2).silent(17, 1)
            .silent(18, 1, 2).silent(19, 1, 2, 3).silent(20, 1, 2);
        far("of NUMBERS", known, 0, 0, 0, 1, 1, 1, 1, 1, 1, 1);
        for (int kind = 14; kind <= 20; kind++) {
            // 1 NUMBER, 2 its HASH (round 1), 3 SECRET.
            for (int place = 1; place <= (kind == 19 ? 3 : kind == 15 || kind == 17 ? 1 : 2); place++) {
                int[] late = {1, 1, 1};
                late[place - 1] = 2;
                far("ask " + kind + ", part " + place + " in round 1", new Script().silent(13, 1).silent(15, 1).silent(21)
                    .silent(kind, late[0], late[1], late[2]).silent(15, 4), 0, 1, -3, 2, 3);
                int[] never = {1, 1, 1};
                never[place - 1] = 3;
                far("ask " + kind + ", part " + place + " not known", new Script().silent(13, 1).silent(15, 1).silent(21)
                    .silent(kind, never[0], never[1], never[2]).silent(15, 4), 0, 1, -3, -3, -3);
            }
        }
    }

    /** One TERM is a part of several, at each place; all come of it when it is had. */
    private static void manyUsers() {
        Check.about("ROUND i + 1 has all that ROUND i has, and what comes of that at once");
        for (int place = 0; place < 3; place++) {
            // 1 a SECRET that is had in round 1, by 2; 3, 4, 5 NUMBERS; then CLOSED of 1 and NUMBERS, and a HASH of each.
            Script s = new Script().silent(21).silent(14, 1, 1).silent(13, 1).silent(13, 2).silent(13, 3);
            int[] rounds = new int[5 + 18];
            rounds[0] = 1;
            int next = 6;
            for (int a = 3; a <= 5; a++) {
                for (int b = 3; b <= 5; b++) {
                    int[] parts = place == 0 ? new int[] {1, a, b} : place == 1 ? new int[] {a, 1, b} : new int[] {a, b, 1};
                    s.silent(19, parts).silent(15, next);
                    rounds[next - 1] = 2;
                    rounds[next] = 3;
                    next += 2;
                }
            }
            far("CLOSED with it at " + place, s.silent(11, 2), rounds);
        }
    }

    private static void manyRounds() {
        Check.about("KNOWN is what some ROUND has");
        Script chain = new Script().silent(13, 5);
        int[] rounds = new int[100];
        for (int i = 1; i < 100; i++) {
            chain.silent(15, i);
            rounds[i] = i;
        }
        far("a chain of HASHES", chain, rounds);
        Script inside = new Script().silent(21);
        for (int i = 1; i < 100; i++) {
            inside.silent(14, i, i);
            rounds[i - 1] = 100 - i;
        }
        rounds[99] = 0;
        far("a PAIR of PAIRS", inside.silent(11, 100), rounds);
    }

    private static void neverKnown() {
        Check.about("Whether the TERM with a HANDLE of a partition (p = -1: of the OUTSIDE) is KNOWN: 1 or 0");
        PartHouse x = Check.booted(Check.alone(1), "ask 21\nadd r2, r1, r0\naddi r1, r0, 0\nask 32\njump r0, 0");
        x.run(5);
        Check.due("the blob's handle", x.block(1, 1), 1);
        Check.due("the blob", x.knows(-1, 1), 1);
        Check.due("what is sealed in it", x.knows(0, 1), 0);
        Check.due("is not opened by what can be made", x.take(1, 4, 1), -3);
        Check.due("its n", x.take(1, 3, 0), 2);
        Check.due("is known", x.far(-1, 2), 0);
    }
}
