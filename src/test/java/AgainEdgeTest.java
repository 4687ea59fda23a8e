/** Section 8, RUN AGAIN, and promises 33 and 34, sentence by sentence, at their boundaries. */
public final class AgainEdgeTest {
    private static final String SPIN = "x: jump r0, x";

    public static void main(String[] args) {
        flowsToItself();
        flowsAlong();
        flowsRound();
        flowsInLatestBoot();
        ticksThatAreOver();
        inputsBeforeTheSameTicks();
        partitionsThatDoNotFlow();
        eightPartitions();
        blocksAtItsBeginning();
        measuresAgain();
        secrets();
        powerDoesNotGo();
        changesNothing();
        manyInputs();
        refusedInputs();
        Check.end("AgainEdgeTest");
    }

    private static void flowsToItself() {
        Check.about("A partition q FLOWS to p if it is p");
        PartHouse x = Check.booted(new int[] {1, 0, 16, 0, 0, 1, 0, 1}, SPIN);
        Check.due("alone", x.flows(0, 0), 1);
        x = Check.booted(new int[] {3, 0, 16, 0, 16, 16, 0, 32, 16, 0, 0, 1, 0, 1}, SPIN, SPIN, SPIN);
        for (int q = 0; q < 3; q++) {
            for (int p = 0; p < 3; p++) {
                Check.due("without a CHANNEL " + q + ", " + p, x.flows(q, p), q == p ? 1 : 0);
            }
        }
        for (int[] none : new int[][] {{3, 0}, {0, 3}, {-1, 0}, {0, -1}, {-1, -1}, {3, 3}, {Integer.MAX_VALUE, 0}, {0, Integer.MIN_VALUE}}) {
            Check.due("none such", x.flows(none[0], none[1]), -1);
        }
    }

    /** Eight partitions, with CHANNELS from p to p + 1, told from the last on or from the first on. */
    private static void flowsAlong() {
        Check.about("or there is a CHANNEL from q to one that FLOWS to p");
        for (int order = 0; order < 2; order++) {
            int[] config = new int[1 + 24 + 1 + 21 + 3];
            int at = 0;
            config[at++] = 8;
            for (int p = 0; p < 8; p++) {
                config[at++] = 16 * p;
                config[at++] = 16;
                config[at++] = 0;
            }
            config[at++] = 7;
            for (int c = 0; c < 7; c++) {
                int from = order == 0 ? c : 6 - c;
                config[at++] = from;
                config[at++] = from + 1;
                config[at++] = 1;
            }
            config[at++] = 1;
            config[at++] = 0;
            config[at] = 1;
            PartHouse x = Check.booted(config, SPIN, SPIN, SPIN, SPIN, SPIN, SPIN, SPIN, SPIN);
            for (int q = 0; q < 8; q++) {
                for (int p = 0; p < 8; p++) {
                    Check.due("flows " + q + ", " + p, x.flows(q, p), q <= p ? 1 : 0);
                }
            }
        }
    }

    private static void flowsRound() {
        Check.about("FLOWS to p");
        PartHouse x = Check.booted(new int[] {4, 0, 16, 0, 16, 16, 0, 32, 16, 0, 48, 16, 0, 4, 0, 1, 1, 1, 2, 1, 2, 0, 1, 3, 0, 1, 1, 0, 1},
            SPIN, SPIN, SPIN, SPIN);
        for (int q = 0; q < 4; q++) {
            for (int p = 0; p < 4; p++) {
                Check.due("flows " + q + ", " + p, x.flows(q, p), q == 3 || p != 3 ? 1 : 0);
            }
        }
    }

    private static void flowsInLatestBoot() {
        Check.about("Whether q FLOWS to p in the latest boot: 1 or 0. -1 there is none such");
        PartHouse x = new PartHouse();
        Check.due("before a boot", x.flows(0, 0), -1);
        x = Check.booted(new int[] {2, 0, 16, 0, 16, 16, 0, 1, 0, 1, 1, 1, 0, 1}, SPIN, SPIN);
        x.off();
        Check.due("OFF", x.flows(0, 1) * 10 + x.flows(1, 0), 10);
        Check.keepRow(x, Check.CONFIG, 2, 0, 16, 0, 16, 16, 0, 1, 1, 0, 1, 1, 0, 1);
        Check.due("a CONFIG that was not booted", x.flows(0, 1) * 10 + x.flows(1, 0), 10);
        x.boot();
        Check.due("then it was", x.flows(0, 1) * 10 + x.flows(1, 0), 1);
        x.off();
        Check.keepRow(x, Check.CONFIG, Check.alone(0));
        x.boot();
        Check.due("one alone", x.flows(0, 1), -1);
        // CHANNELS of a boot before the one before are no CHANNELS of this one.
        int[] apart = {3, 0, 16, 0, 16, 16, 0, 32, 16, 0, 0, 1, 0, 1};
        int[] joined = {3, 0, 16, 0, 16, 16, 0, 32, 16, 0, 2, 2, 1, 1, 1, 2, 1, 1, 0, 1};
        PartHouse y = Check.booted(joined, SPIN, SPIN, SPIN);
        for (int boot = 0; boot < 4; boot++) {
            y.off();
            Check.keepRow(y, Check.CONFIG, apart);
            y.boot();
            for (int q = 0; q < 3; q++) {
                for (int p = 0; p < 3; p++) {
                    Check.due("apart " + q + ", " + p, y.flows(q, p), q == p ? 1 : 0);
                }
            }
        }
    }

    private static void ticksThatAreOver() {
        Check.about("the latest boot from its beginning, with as many ticks as are over");
        PartHouse x = Check.booted(new int[] {2, 0, 16, 0, 16, 16, 0, 0, 2, 0, 3, 1, 5}, "ask 4\nask 6\nask 0\njump r0, -3", "ask 4\nask 6\njump r0, -2");
        for (int i = 0; i < 60; i++) {
            Check.due("purge of 0 at " + x.told(2), x.purge(0), 1);
            Check.due("purge of 1 at " + x.told(2), x.purge(1), 1);
            x.run(i % 7);
        }
        x.off();
        Check.due("OFF", x.purge(0) + x.purge(1), 2);
        x.boot();
        Check.due("a new boot", x.purge(0) + x.purge(1), 2);
        for (int i = 0; i < 30; i++) {
            x.run(2000);
        }
        Check.due("60000 ticks", x.told(2), 60000);
        Check.due("purge", x.purge(0) + x.purge(1), 2);
    }

    private static void inputsBeforeTheSameTicks() {
        Check.about("the inputs before the same ticks");
        // Puts out when, and what, came in; a word that came a tick later would be told another time.
        String text = "x: ask 5\nbeq r2, r0, x\nask 6\nask 4\nask 6\nask 12\nask 11\njump r0, x";
        for (int gap = 0; gap <= 5; gap++) {
            PartHouse x = Check.booted(new int[] {2, 0, 16, 0, 16, 16, 0, 1, 0, 1, 1, 2, 0, 4, 1, 3}, text, text);
            x.make(2, 0, 0, 0);
            x.make(0, 4, 0, 0);
            for (int i = 0; i < 20; i++) {
                x.input(i % 2, i);
                x.inputTerm(i % 3 % 2, 1 + i % 2);
                x.run(gap * (i % 3));
                x.input(0, -i);
            }
            Check.due("before the last inputs are had", x.purge(0) + x.purge(1), 2);
            x.run(200);
            Check.due("outputs", x.state(0, 7) > 0 && x.state(1, 7) > 0 ? 1 : 0, 1);
            Check.due("when they are", x.purge(0) + x.purge(1), 2);
        }
    }

    private static void partitionsThatDoNotFlow() {
        Check.about("all partitions that don't FLOW to p are HALTED at first, nothing comes to them, their AREAS' BLOCKS are empty");
        // 0 sends to 1; 2 is apart, and does all that it can.
        String busy = "x: ask 21\nask 11\nadd r2, r1, r0\naddi r1, r0, 0\naddi r2, r0, 1\nask 32\nask 33\nask 6\nask 5\nask 12\nask 0\njump r0, x";
        String send = "x: ask 5\nstw r1, r0, 60\naddi r1, r0, 0\naddi r2, r0, 60\nask 7\njump r0, x";
        String receive = "x: addi r2, r0, 60\naddi r1, r0, 0\nask 8\nask 6\nldw r1, r0, 60\nask 6\njump r0, x";
        PartHouse x = Check.booted(new int[] {3, 0, 16, 1, 16, 16, 1, 32, 16, 1, 1, 0, 1, 1, 3, 0, 5, 2, 9, 1, 4}, send, receive, busy);
        x.make(2, 0, 0, 0);
        for (int i = 0; i < 20; i++) {
            x.input(0, 100 + i);
            x.input(2, i);
            x.inputTerm(2, 1);
            x.run(17);
        }
        Check.due("it sealed", x.state(2, 10) > 3 ? 1 : 0, 1);
        for (int p = 0; p < 3; p++) {
            Check.due("purge of " + p, x.purge(p), 1);
        }
        Check.due("none such", x.purge(3), -1);
        Check.due("none such", x.purge(-1), -1);
        Check.due("none such", x.purge(Integer.MIN_VALUE), -1);
    }

    private static void eightPartitions() {
        Check.about("PURGING for p: 1 if p has the same outputs behind it (as many, alike in kind, words, TERMS), its PC and registers are the same, else 0");
        String text = "x: ask 4\nask 6\nask 21\nask 11\naddi r5, r5, 1\njump r0, x";
        int[] config = new int[1 + 24 + 1 + 48 + 1 + 16];
        int at = 0;
        config[at++] = 8;
        for (int p = 0; p < 8; p++) {
            config[at++] = 16 * p;
            config[at++] = 16;
            config[at++] = 4;
        }
        config[at++] = 16;
        for (int c = 0; c < 16; c++) {
            config[at++] = c % 4;
            config[at++] = 4 + c / 4;
            config[at++] = 16;
        }
        config[at++] = 8;
        for (int p = 0; p < 8; p++) {
            config[at++] = p;
            config[at++] = 5 + p;
        }
        PartHouse x = Check.booted(config, text, text, text, text, text, text, text, text);
        for (int i = 0; i < 5; i++) {
            for (int p = 0; p < 8; p++) {
                x.input(p, i);
                Check.due("purge of " + p, x.purge(p), 1);
            }
            x.run(150);
        }
        for (int q = 0; q < 8; q++) {
            for (int p = 0; p < 8; p++) {
                Check.due("flows " + q + ", " + p, x.flows(q, p), q == p || q < 4 && p >= 4 ? 1 : 0);
            }
        }
    }

    private static void blocksAtItsBeginning() {
        Check.about("the other BLOCKS are as they were when it began");
        String text = "addi r1, r0, 0\nask 34\nask 6\naddi r1, r0, 0\nask 33\nask 23\nask 6\nask 4\nask 13\nadd r2, r1, r0\naddi r1, r0, 0\nask 32\nask 6\njump r0, 0";
        PartHouse x = Check.booted(new int[] {2, 0, 16, 1, 16, 16, 1, 0, 2, 0, 20, 1, 20}, text, text);
        for (int boot = 1; boot <= 4; boot++) {
            x.run(40);
            Check.due("the VERSION at first", x.output(0, 0, 1), boot - 1);
            Check.due("the VERSION then", x.output(0, 2, 1), boot);
            Check.due("purge", x.purge(0) + x.purge(1), 2);
            x.off();
            Check.due("purge when OFF", x.purge(0) + x.purge(1), 2);
            x.boot();
        }
        x.run(40);
        x.off();
        for (int i = 0; i < 4; i++) {
            Check.due("put", x.put(i, 0, 0), 0);
        }
        Check.due("BLOCKS that changed behind it", x.purge(0) + x.purge(1), 2);
        Check.due("they stay empty", x.block(0, 0) + x.block(1, 0) + x.block(2, 0) + x.block(3, 0), 0);
    }

    /** What a partition asks of its measure and its BLOBS is as it was. */
    private static void measuresAgain() {
        Check.about("PURGING for p: the latest boot from its beginning");
        String text = "ask 29\nask 11\nask 30\nask 11\nask 31\nask 11\naddi r1, r0, 0\naddi r2, r0, 1\nask 32\naddi r1, r0, 0\nask 33\nask 6\njump r0, -9";
        PartHouse x = Check.booted(new int[] {2, 0, 16, 1, 16, 16, 1, 0, 2, 0, 20, 1, 20}, text, text);
        for (int boot = 0; boot < 3; boot++) {
            x.run(100);
            Check.due("purge", x.purge(0) + x.purge(1), 2);
            Check.due("a TERM went out", x.output(0, 0, 0) + x.output(1, 0, 0), 2);
            x.off();
            x.boot();
        }
    }

    private static void secrets() {
        Check.about("the i-th SECRET that a partition asks for is the one that it had");
        String text = "x: ask 21\nask 11\nask 0\njump r0, x";
        PartHouse x = Check.booted(new int[] {2, 0, 16, 0, 16, 16, 0, 0, 2, 0, 5, 1, 5}, text, text);
        x.run(2000);
        Check.due("SECRETS", x.state(0, 6), 100);
        Check.due("purge", x.purge(0) + x.purge(1), 2);
        Check.due("and again", x.purge(0) + x.purge(1), 2);
        x.off();
        x.boot();
        x.run(50);
        Check.due("in the next boot", x.purge(0) + x.purge(1), 2);
        x.run(10);
        Check.due("it goes on with others", x.same(0, 6, 1, 6) + x.same(0, 5, 0, 6), 0);
        Check.due("purge", x.purge(0) + x.purge(1), 2);
    }

    private static void powerDoesNotGo() {
        Check.about("the power does not go");
        String text = "ask 21\nx: addi r1, r0, 0\naddi r2, r0, 1\nask 32\nask 6\njump r0, x";
        for (int n = 1; n <= 6; n++) {
            PartHouse x = Check.booted(new int[] {2, 0, 16, 1, 16, 16, 1, 0, 2, 0, 7, 1, 4}, text, text);
            x.cut(n);
            int over = x.run(500);
            Check.due("power", x.told(0), 0);
            String before = Snapshot.of(x);
            Check.due("purge", x.purge(0) + x.purge(1), 2);
            Check.due("nothing changed", Snapshot.of(x).equals(before) ? 1 : 0, 1);
            Check.due("ticks", x.told(2), over);
            // A cut that is yet to come stands, whatever was run again.
            x.boot();
            x.cut(2);
            x.run(4);
            Check.due("purge before it", x.purge(0) + x.purge(1), 2);
            x.run(100);
            Check.due("it came", x.told(0), 0);
        }
    }

    private static void changesNothing() {
        Check.about("(What goes out or is written there does not count for KNOWN, nor for told().)");
        String text = "ask 21\nask 21\naddi r1, r0, 2\nask 11\naddi r1, r0, 0\naddi r2, r0, 1\nask 32\nask 0\naddi r1, r0, 2\nask 15\njump r0, 0";
        PartHouse x = Check.booted(new int[] {2, 0, 16, 1, 16, 16, 1, 1, 0, 1, 1, 2, 0, 20, 1, 20}, text, text);
        x.make(0, 5, 0, 0);
        x.input(0, 7);
        x.inputTerm(1, 1);
        x.run(60);
        String before = Snapshot.of(x);
        for (int i = 0; i < 3; i++) {
            Check.due("purge", x.purge(0) + x.purge(1), 2);
        }
        String after = Snapshot.of(x);
        Check.due("nothing changed" + Snapshot.difference(before, after), before.equals(after) ? 1 : 0, 1);
        // Nor does what comes later.
        PartHouse y = Check.booted(new int[] {2, 0, 16, 1, 16, 16, 1, 1, 0, 1, 1, 2, 0, 20, 1, 20}, text, text);
        y.make(0, 5, 0, 0);
        y.input(0, 7);
        y.inputTerm(1, 1);
        y.run(60);
        x.run(30);
        y.run(30);
        Check.due("what comes later", Snapshot.of(x).equals(Snapshot.of(y)) ? 1 : 0, 1);
    }

    /** More inputs than 512 calls can bring; the class answers all the same. */
    private static void manyInputs() {
        Check.about("-4 there were more than 500 inputs in this boot (of both kinds, to all)");
        String text = "x: ask 5\nask 6\nask 12\njump r0, x";
        PartHouse x = Check.booted(new int[] {2, 0, 16, 0, 16, 16, 0, 0, 1, 0, 10}, text, text);
        x.make(0, 5, 0, 0);
        int inputs = 0;
        for (int i = 0; i < 64; i++) {
            Check.due("to the other", x.input(1, i), i + 1);
            Check.due("to the other", x.inputTerm(1, 1), i + 1);
            inputs += 2;
        }
        while (inputs < 500) {
            x.input(0, inputs);
            x.inputTerm(0, 1);
            inputs += 2;
            x.run(4);
        }
        Check.due("500 inputs", x.purge(0) + x.purge(1), 2);
        Check.due("a word", x.input(0, 1) > 0 ? 1 : 0, 1);
        Check.due("501 inputs", x.purge(0), -4);
        Check.due("501 inputs", x.purge(1), -4);
        Check.refused(x, "purge of 501 inputs", () -> x.purge(0), -4);
        Check.due("none such before no room", x.purge(2), -1);
        x.off();
        Check.due("OFF", x.purge(0), -4);
        x.boot();
        Check.due("in this boot", x.purge(0), 1);
    }

    private static void refusedInputs() {
        Check.about("-4 there were more than 500 inputs in this boot");
        PartHouse x = Check.booted(new int[] {2, 0, 16, 0, 16, 16, 0, 0, 1, 0, 10}, "x: ask 5\nask 6\nask 12\njump r0, x", SPIN);
        x.make(0, 5, 0, 0);
        for (int i = 0; i < 64; i++) {
            x.input(0, i);
            x.inputTerm(0, 1);
        }
        for (int i = 0; i < 200; i++) {
            Check.due("no room", x.input(0, 999), -4);
            Check.due("no room", x.inputTerm(0, 1), -4);
            Check.due("none such", x.input(2, 1), -1);
            Check.due("none such", x.inputTerm(0, 9), -1);
        }
        x.run(2000);
        Check.due("what was refused does not come again", x.purge(0), 1);
        Check.due("nor counts", x.state(0, 7), 200);
    }
}
