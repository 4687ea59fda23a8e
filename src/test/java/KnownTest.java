import java.util.ArrayList;
import java.util.HashMap;
import java.util.List;
import java.util.Map;
import java.util.Random;

/** Promises 30 and 31: what the OUTSIDE can come to. */
public final class KnownTest {
    public static void main(String[] args) {
        refusals();
        rounds();
        later();
        seals();
        boots();
        againstTheWords();
        Check.end("KnownTest");
    }

    private static void refusals() {
        PartHouse x = Check.booted(Check.alone(0), "ask 21\nback");
        Check.due("no handle", x.knows(0, 1), -1);
        Check.due("no handle", x.far(0, 1), -1);
        x.run(1);
        Check.due("a SECRET", x.knows(0, 1), 0);
        Check.due("a SECRET", x.far(0, 1), -3);
        Check.due("no handle", x.knows(0, 0), -1);
        Check.due("no handle", x.knows(0, 2), -1);
        Check.due("no partition", x.knows(1, 1), -1);
        Check.due("no partition", x.knows(-2, 1), -1);
        Check.due("no partition", x.far(-2, 1), -1);
        Check.due("no handle", x.knows(-1, 1), -1);
        x.make(2, 0, 0, 0);
        Check.due("the outside's own", x.knows(-1, 1) * 10 + x.far(-1, 1), 10);
        x.off();
        Check.due("OFF", x.knows(0, 1), 0);
    }

    private static void rounds() {
        // 1 NUMBER, 2 its HASH, 3 HASH of that, 4 SECRET, 5 PAIR(2, 3), 6 R(p), 7 PUBLIC(QK), 8 quote of 4.
        Script s = new Script().silent(13, 5).silent(15, 1).silent(15, 2).silent(21).silent(14, 2, 3).silent(29).silent(31)
            .silent(30, 4).silent(17, 4).silent(19, 4, 3, 4).silent(18, 4, 1);
        PartHouse x = s.runs();
        int[] far = {0, 1, 2, -3, 3, 5, 0, -3, -3, -3, -3};
        for (int h = 1; h <= far.length; h++) {
            Check.due("far " + h, x.far(0, h), far[h - 1]);
            Check.due("knows " + h, x.knows(0, h), far[h - 1] < 0 ? 0 : 1);
        }
        x.measure(0);
        Check.due("what was told is in round 0", x.far(0, 6), 0);
        // What goes out: the quote (then R(p), 4 in rounds 1 and 2), and by it all of the SECRET.
        s = new Script().silent(13, 5).silent(15, 1).silent(15, 2).silent(21).silent(14, 2, 3).silent(29).silent(31)
            .silent(30, 4).silent(17, 4).silent(19, 4, 3, 4).silent(18, 4, 1).silent(11, 8);
        x = s.runs();
        int[] then = {0, 1, 2, 2, 3, 2, 0, 0, 3, 3, 3};
        for (int h = 1; h <= then.length; h++) {
            Check.due("far " + h, x.far(0, h), then[h - 1]);
            Check.due("knows " + h, x.knows(0, h), 1);
        }
        // 1, 2 SECRETS, 3 CLOSED(1, 2, 1), 4 CLOSED(2, 1, 2); 4 goes out: n is had, so nothing of 2.
        s = new Script().silent(21).silent(21).silent(19, 1, 2, 1).silent(19, 2, 1, 2).silent(11, 4);
        x = s.runs();
        Check.due("n", x.far(0, 1), 1);
        Check.due("a without k", x.far(0, 2), -3);
        Check.due("CLOSED of it", x.far(0, 3), -3);
        // Both go out: each tells the other's key in round 1, which opens in round 2 what is known already.
        s = new Script().silent(21).silent(21).silent(21).silent(19, 1, 2, 3).silent(19, 2, 1, 2).silent(11, 4).silent(11, 5)
            .silent(16, 3, 3).silent(20, 3, 1);
        x = s.runs();
        int[] both = {1, 1, 2, 0, 0, 3, 3};
        for (int h = 1; h <= both.length; h++) {
            Check.due("far " + h, x.far(0, h), both[h - 1]);
        }
    }

    /** What is judged once is judged anew when there is more. */
    private static void later() {
        Script s = new Script().silent(21).silent(0).silent(15, 1).silent(13, 4).silent(15, 3).silent(11, 1).silent(15, 4);
        PartHouse x = Check.booted(new int[] {1, 0, 64, 0, 0, 1, 0, 2}, s.image());
        x.run(2);
        Check.due("a SECRET", x.knows(0, 1), 0);
        x.run(2);
        Check.due("its HASH", x.knows(0, 2), 0);
        x.run(4);
        Check.due("HASH of a NUMBER", x.far(0, 4), 1);
        Check.due("its HASH", x.far(0, 2), -3);
        x.run(2);
        Check.due("it went out", x.far(0, 1), 0);
        Check.due("its HASH", x.far(0, 2), 1);
        x.run(2);
        Check.due("another HASH", x.far(0, 5), 2);
        // What could not go out is not known by it.
        x = Check.booted(Check.alone(0), "ask 21\nx: ask 6\naddi r5, r5, 1\naddi r6, r0, 200\nbne r5, r6, x\naddi r1, r0, 1\nask 11\nback");
        x.run(810);
        Check.due("no room", x.register(0, 1), -4);
        Check.due("not known", x.knows(0, 1), 0);
    }

    private static void seals() {
        Script s = new Script().silent(21).silent(32, 0, 1).silent(15, 1);
        PartHouse x = s.runs();
        Check.due("sealed", x.block(1, 0), 1);
        Check.due("what is sealed is not known", x.knows(0, 1) + x.knows(0, 2), 0);
        Check.due("the blob is", x.block(1, 1), 1);
        Check.due("by all its rounds", x.far(-1, 1), 0);
        // A partition that is handed its blob finds it known, before the outside was told of it.
        String text = "ask 21\nadd r2, r1, r0\naddi r1, r0, 0\nask 32\nask 0\nask 12\nask 12\nback";
        x = Check.booted(Check.alone(1), text);
        x.run(5);
        x.off();
        x.block(1, 1);
        x.boot();
        x.inputTerm(0, 1);
        x.run(200);
        Check.due("the blob", x.far(0, 2), 0);
        Check.due("the secret", x.knows(0, 1), 0);
    }

    private static void boots() {
        // What went out in one boot is known in the next, to a partition that is handed it.
        String text = "ask 21\nask 11\nask 12\nback";
        PartHouse x = Check.booted(Check.alone(0), text);
        x.run(2);
        x.output(0, 0, 1);
        x.off();
        x.boot();
        x.inputTerm(0, 1);
        x.run(3);
        Check.due("its new one went out", x.far(0, 1), 0);
        Check.due("the old one", x.far(0, 2), 0);
        Check.due("they are two", x.same(0, 1, 0, 2), 0);
        Check.due("purge does not tell", x.purge(0), 1);
    }

    /** A TERM as the test sees it. */
    private record Node(int kind, int number, int a, int b, int c) {
    }

    private static void againstTheWords() {
        Random random = new Random(5);
        for (int i = 0; i < 400; i++) {
            new World(random, i).go();
        }
    }

    /** Two partitions make TERMS at random, some go out; the rounds are then gone through one by one. */
    private static final class World {
        private static final int[] PARTS = {0, 0, 0, 2, 1, 2, 1, 2, 3, 2};
        private final Random random;
        private final int name;
        private final List<Node> nodes = new ArrayList<>();
        private final Map<Node, Integer> ids = new HashMap<>();
        private final List<Integer> table = new ArrayList<>();
        private final List<Integer> outside = new ArrayList<>();
        private final List<Integer> told = new ArrayList<>();
        private int secrets = 1;

        World(Random random, int name) {
            this.random = random;
            this.name = name;
        }

        private int id(int kind, int number, int a, int b, int c) {
            Node node = new Node(kind, number, a, b, c);
            Integer known = ids.get(node);
            if (known == null) {
                known = nodes.size();
                nodes.add(node);
                ids.put(node, known);
            }
            return known;
        }

        private static int comeIn(List<Integer> table, int id) {
            if (!table.contains(id)) {
                table.add(id);
            }
            return table.indexOf(id) + 1;
        }

        private int any(List<Integer> table) {
            return random.nextInt(3) == 0 ? 1 + random.nextInt(table.size())
                : Math.max(1, table.size() - random.nextInt(5));
        }

        private int made(int kind, List<Integer> table, int a, int b, int c) {
            int parts = PARTS[kind];
            return id(kind, 0, table.get(a - 1), parts >= 2 ? table.get(b - 1) : -1, parts >= 3 ? table.get(c - 1) : -1);
        }

        void go() {
            PartHouse x = new PartHouse();
            int given = random.nextInt(6);
            for (int i = 0; i < given; i++) {
                giveOutside(x);
            }
            Script s = script(4 + random.nextInt(30), outside.size());
            Check.keepRow(x, Check.LOADER, 1);
            Check.keepRow(x, Check.CONFIG, 1, 0, 512, 0, 0, 1, 0, 1000);
            Check.keepText(x, 0, s.image());
            Check.due("boot", x.boot(), 1);
            for (int h = 1; h <= outside.size(); h++) {
                x.inputTerm(0, h);
            }
            x.run(s.ticks());
            s.check(x, 0);
            told.addAll(outside);
            int[] rounds = rounds();
            for (int h = 1; h <= table.size(); h++) {
                int round = rounds[table.get(h - 1)];
                Check.due("knows " + h + " in " + name, x.knows(0, h), round < 0 ? 0 : 1);
                Check.due("far " + h + " in " + name, x.far(0, h), round < 0 ? -3 : round);
            }
        }

        private void giveOutside(PartHouse x) {
            int kind = outside.isEmpty() ? 2 : new int[] {0, 2, 3, 4, 5, 6, 7, 8, 9}[random.nextInt(9)];
            int a = outside.isEmpty() ? 0 : any(outside);
            int b = outside.isEmpty() ? 0 : any(outside);
            int c = outside.isEmpty() ? 0 : any(outside);
            int id;
            if (kind == 0) {
                id = id(0, a, -1, -1, -1);
            } else if (kind == 2) {
                id = id(2, secrets++, -1, -1, -1);
            } else {
                id = made(kind, outside, a, b, c);
            }
            Check.due("make", x.make(kind, a, b, c), comeIn(outside, id));
        }

        private Script script(int asks, int handed) {
            Script s = new Script();
            int derived = id(9, 0, id(2, 0, -1, -1, -1), id(0, 1, -1, -1, -1), -1);
            told.add(id(6, 0, derived, -1, -1));
            for (int i = 0; i < handed; i++) {
                s.ask(12, comeIn(table, outside.get(i)));
            }
            for (int i = 0; i < asks; i++) {
                int choice = table.isEmpty() ? 8 : random.nextInt(12);
                if (choice == 11) {
                    int h = any(table);
                    s.silent(11, h);
                    told.add(table.get(h - 1));
                } else if (choice >= 8) {
                    s.ask(21, comeIn(table, id(2, secrets++, -1, -1, -1)));
                } else if (choice == 7) {
                    int w = random.nextInt(3);
                    s.ask(13, comeIn(table, id(0, w, -1, -1, -1)), w);
                } else {
                    int kind = new int[] {3, 4, 5, 8, 7, 8, 9}[choice];
                    int a = any(table);
                    int b = any(table);
                    int c = any(table);
                    s.ask(new int[] {14, 15, 16, 17, 18, 19, 20}[kind - 3], comeIn(table, made(kind, table, a, b, c)), a, b, c);
                }
            }
            return s;
        }

        /** ROUND after ROUND over all TERMS of the test, as the document words them. */
        private int[] rounds() {
            int[] rounds = new int[nodes.size()];
            boolean[] has = new boolean[nodes.size()];
            for (int i = 0; i < rounds.length; i++) {
                has[i] = told.contains(i) || nodes.get(i).kind() == 0;
                rounds[i] = has[i] ? 0 : -1;
            }
            for (int round = 1; round <= nodes.size() + 1; round++) {
                boolean[] next = has.clone();
                for (int i = 0; i < rounds.length; i++) {
                    Node n = nodes.get(i);
                    if (has[i] && n.kind() == 3) {
                        next[n.a()] = true;
                        next[n.b()] = true;
                    }
                    if (has[i] && (n.kind() == 7 || n.kind() == 8)) {
                        next[n.b()] = true;
                    }
                    if (has[i] && n.kind() == 8 && has[n.a()]) {
                        next[n.c()] = true;
                    }
                    boolean all = n.kind() >= 3 && has[n.a()] && (n.b() < 0 || has[n.b()]) && (n.c() < 0 || has[n.c()]);
                    next[i] |= all;
                }
                for (int i = 0; i < rounds.length; i++) {
                    rounds[i] = next[i] && !has[i] ? round : rounds[i];
                }
                has = next;
            }
            return rounds;
        }
    }
}
