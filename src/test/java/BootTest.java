/** Promises 12 to 15 and 22, 33, 35: THE CONFIG, boots, slots and ticks. */
public final class BootTest {
    private static final String SPIN = "x: jump r0, x";

    public static void main(String[] args) {
        refusals();
        configs();
        latestBoot();
        anew();
        most();
        fortyBoots();
        slots();
        yields();
        ticks();
        flows();
        told();
        Check.end("BootTest");
    }

    private static void refusals() {
        PartHouse x = new PartHouse();
        Check.due("nothing kept", x.boot(), -3);
        Check.keepRow(x, 9, 0);
        Check.due("no loader", x.boot(), -3);
        Check.keepRow(x, 8, 1);
        Check.due("N is 0", x.boot(), -100);
        Check.keepRow(x, 9, 2, 0, 16, 0, 16, 20, 0, 0, 1, 0, 1);
        Check.due("no image of 0", x.boot(), -20);
        Check.keepText(x, 0, "room 17");
        Check.due("image of 0 is too long", x.boot(), -20);
        Check.keepText(x, 0, "room 16");
        Check.due("no image of 1", x.boot(), -21);
        Check.keepText(x, 1, "room 20");
        Check.due("told(0)", x.told(0) + x.told(1) + x.told(3), 0);
        Check.due("off", x.off(), -3);
        Check.due("boot", x.boot(), 2);
        Check.due("told(0)", x.told(0), 1);
        Check.due("told(1)", x.told(1), 1);
        Check.due("told(3)", x.told(3), 2);
        Check.due("ON already", x.boot(), -3);
        Check.due("off", x.off(), 0);
        Check.due("off again", x.off(), -3);
        Check.due("cut", x.cut(1001), -2);
        Check.due("cut", x.cut(1000), -3);
        Check.due("run", x.run(-1), -2);
        Check.due("run", x.run(2001), -2);
        Check.due("run", x.run(0), -3);
    }

    private static PartHouse ready() {
        PartHouse x = new PartHouse();
        Check.keepRow(x, 8, 1);
        for (int p = 0; p < 8; p++) {
            Check.keepText(x, p, SPIN);
        }
        return x;
    }

    private static void config(int want, int... row) {
        PartHouse x = ready();
        Check.due("keep", Check.keepRow(x, 9, row), row.length);
        Check.due("boot of " + java.util.Arrays.toString(row), x.boot(), want);
    }

    private static void configs() {
        int[] good = {3, 0, 16, 8, 100, 2048, 0, 16, 84, 8, 2, 0, 1, 1, 2, 0, 16, 3, 0, 1, 255, 1000, 2, 7};
        config(3, good);
        int[][] wrongs = {{0, 9, -1}, {-1, 8177}, {15, 2049, -1}, {-1, 9}, {-1, 8177}, {15, 2049}, {-1, 9},
            {-1, 101, 8177, 8180}, {15, 85, 2049}, {-1, 9}, {-1, 17}, {-1, 3, 255}, {0, -1, 3}, {0, 17},
            {-1, 3, 255}, {2, 3, -1}, {0, 17}, {0, 33}, {-1, 3, 254, 256}, {0, 1001, -1}, {-1, 3}, {0, 1001},
            {3, -2}, {0, 1001}};
        for (int place = 0; place < good.length; place++) {
            if (place > 0) {
                config(-100 - place, java.util.Arrays.copyOf(good, place));
            }
            for (int wrong : wrongs[place]) {
                int[] row = good.clone();
                row[place] = wrong;
                // A BASE of 101 is wrong by its SIZE alone: the region before ends later.
                config(wrong == 101 ? -108 : -100 - place, row);
            }
        }
        config(-124, java.util.Arrays.copyOf(good, 25));
        config(-101, 1);
        config(1, 1, 8176, 16, 0, 0, 1, 0, 1);
        config(-102, 1, 8176, 17, 0, 0, 1, 0, 1);
        config(-102, 1, 6145, 2048, 0, 0, 1, 0, 1);
        config(1, 1, 6144, 2048, 0, 0, 1, 0, 1);
        config(-105, 2, 50, 50, 0, 34, 17, 0, 0, 1, 0, 1);
        config(2, 2, 50, 50, 0, 34, 16, 0, 0, 1, 0, 1);
        config(-105, 2, 50, 50, 0, 60, 16, 0, 0, 1, 0, 1);
        config(-105, 2, 50, 50, 0, 40, 100, 0, 0, 1, 0, 1);
        config(-105, 2, 50, 50, 0, 99, 16, 0, 0, 1, 0, 1);
        config(2, 2, 50, 50, 0, 100, 16, 0, 0, 1, 0, 1);
        config(-105, 2, 50, 50, 0, 50, 50, 0, 0, 1, 0, 1);
        config(-106, 1, 0, 16, 8, 1, 0, 0, 1, 1, 0, 1);
        config(-115, 5, 0, 16, 8, 16, 16, 8, 32, 16, 8, 48, 16, 7, 64, 16, 2, 0, 1, 0, 1);
        config(5, 5, 0, 16, 8, 16, 16, 8, 32, 16, 8, 48, 16, 7, 64, 16, 1, 0, 1, 0, 1);
        config(-101, 1, -8, 16, 0, 0, 1, 0, 1);
        config(-101, 1, Integer.MIN_VALUE, 16, 0, 0, 1, 0, 1);
        config(-102, 1, 0, Integer.MAX_VALUE, 0, 0, 1, 0, 1);
        config(1, 1, 0, 16, 0, 0, 1, 255, 1);
    }

    /** A boot that is refused, and a row that is kept, leave the latest boot as it is. */
    private static void latestBoot() {
        PartHouse x = Check.booted(new int[] {2, 0, 16, 0, 16, 17, 0, 1, 0, 1, 3, 1, 0, 9}, "addi r1, r0, 5\n" + SPIN, SPIN);
        x.run(3);
        x.off();
        Check.keepRow(x, 9, 7);
        Check.due("boot", x.boot(), -101);
        Check.due("partitions", x.told(3), 2);
        Check.due("channels", x.told(4), 1);
        Check.due("ticks", x.told(2), 3);
        Check.due("register", x.register(0, 1), 5);
        Check.keepText(x, 0, "back");
        Check.due("memory", x.memory(0, 0), 12 << 26 | 1 << 22 | 5);
        Check.due("region", x.state(1, 0), 0);
        Check.due("channel", x.channel(0, 2), 3);
        Check.due("purge", x.purge(0), 1);
        Check.keepRow(x, 9, 1, 0, 16, 0, 0, 1, 0, 4);
        Check.due("boot", x.boot(), 1);
        Check.due("all is 0", x.register(0, 1) + x.state(0, 0) + x.told(2) + x.memory(0, 1), 0);
        Check.due("the new image", x.memory(0, 0), 39 << 26);
        Check.due("no partition 1", x.state(1, 0), -1);
        Check.due("no channel", x.channel(0, 0), -1);
    }

    /** Whatever a partition was left in, a boot begins anew. */
    private static void anew() {
        String text = "addi r1, r0, 16\nask 1\nstw r1, r0, 60\nword 0\nask 5\naddi r5, r0, 9\nask 21\nask 11\nback\nword 0";
        PartHouse x = Check.booted(new int[] {2, 0, 16, 1, 16, 17, 1, 1, 0, 1, 1, 2, 0, 6, 1, 15}, text, text + "\nask 0");
        x.input(0, 5);
        x.input(0, 6);
        x.make(0, 1, 0, 0);
        x.inputTerm(0, 1);
        x.run(60);
        for (int what : new int[] {0, 2, 3, 4, 5, 6, 7, 9}) {
            Check.due("state " + what + " is not 0", x.state(0, what) > 0 ? 1 : 0, 1);
        }
        x.off();
        x.boot();
        for (int what = 0; what <= 10; what++) {
            Check.due("state " + what, x.state(0, what) + x.state(1, what), 0);
        }
        for (int i = 0; i < 16; i++) {
            Check.due("register", x.register(0, i) + x.register(1, i), 0);
        }
        Check.due("memory", x.memory(0, 15) + x.memory(1, 15), 0);
        Check.due("ticks", x.told(2), 0);
        x.run(4);
        Check.due("slots begin anew", x.state(0, 0) * 10 + x.state(0, 4), 161);
        Check.due("the other waits", x.state(1, 0), 0);
    }

    /** As much of everything as a CONFIG may have. */
    private static void most() {
        int[] row = new int[1 + 24 + 1 + 48 + 1 + 64];
        int at = 0;
        row[at++] = 8;
        for (int p = 0; p < 8; p++) {
            row[at++] = 1024 * p;
            row[at++] = 1024;
            row[at++] = 4;
        }
        row[at++] = 16;
        for (int c = 0; c < 16; c++) {
            row[at++] = c / 2;
            row[at++] = (c / 2 + 1) % 8;
            row[at++] = 16;
        }
        row[at++] = 32;
        for (int s = 0; s < 32; s++) {
            row[at++] = s % 8;
            row[at++] = 10;
        }
        String image = new Script().silent(21).silent(32, 3, 1).ask(34, 1, 3).silent(7, 15, 0).silent(8, 15, 0).image();
        PartHouse x = Check.house(row);
        for (int p = 0; p < 8; p++) {
            Check.keepText(x, p, image);
        }
        Check.due("boot", x.boot(), 8);
        Check.due("run", x.run(2000), 2000);
        for (int p = 0; p < 8; p++) {
            Check.due("output", x.output(p, 0, 1), 1);
            Check.due("block", x.block(8 * p + 7, 0), 1);
            Check.due("purge", x.purge(p), 1);
            Check.due("flows", x.flows(p, (p + 3) % 8), 1);
        }
        Check.due("channel 15", x.channel(15, 0) * 10 + x.channel(15, 1), 70);
        Check.due("channel 16", x.channel(16, 0), -1);
        Check.due("partition 8", x.state(8, 0), -1);
        Check.due("channels", x.told(4), 16);
    }

    private static void fortyBoots() {
        PartHouse x = Check.house(Check.alone(0), SPIN);
        for (int i = 1; i <= 40; i++) {
            Check.due("boot", x.boot(), 1);
            Check.due("boots", x.told(1), i);
            Check.due("off", x.off(), 0);
        }
        Check.due("boot 41", x.boot(), -4);
        Check.due("boots", x.told(1), 40);
        Check.keepRow(x, 9, 0);
        Check.due("a fault counts before", x.boot(), -100);
    }

    private static void slots() {
        String count = "x: addi r1, r1, 1\njump r0, x";
        int[] config = {3, 0, 16, 0, 16, 16, 0, 32, 16, 0, 0, 5, 0, 4, 255, 3, 1, 2, 0, 2, 1, 1};
        PartHouse x = Check.booted(config, count, count, count);
        int[] who = {0, 0, 0, 0, -1, -1, -1, 1, 1, 0, 0, 1};
        int[] steps = new int[3];
        for (int t = 0; t < 40; t++) {
            Check.due("run(1)", x.run(1), 1);
            if (who[t % 12] >= 0) {
                steps[who[t % 12]]++;
            }
            for (int p = 0; p < 3; p++) {
                Check.due("partition " + p + " at " + t, x.state(p, 0), 4 * (steps[p] % 2));
            }
        }
        Check.due("r1 of 0", x.register(0, 1), (steps[0] + 1) / 2);
        Check.due("r1 of 2", x.register(2, 1), 0);
        PartHouse y = Check.booted(config, count, count, count);
        y.run(40);
        Check.due("at once", y.register(0, 1), x.register(0, 1));
        Check.due("at once", y.register(1, 1), x.register(1, 1));
    }

    private static void yields() {
        String text = "x: addi r5, r5, 1\naddi r1, r0, 7\nask 0\njump r0, x";
        int[] config = {2, 0, 16, 0, 16, 16, 0, 0, 2, 0, 10, 0, 10};
        PartHouse x = Check.booted(config, text, text);
        x.run(3);
        Check.due("answered 0", x.register(0, 1), 0);
        Check.due("pc goes on", x.state(0, 0), 12);
        x.run(7);
        Check.due("the slot's turn passes", x.state(0, 0), 12);
        x.run(1);
        Check.due("a slot of the same one is another turn", x.state(0, 0), 0);
        x.run(3);
        Check.due("again", x.state(0, 0), 12);
        x.run(6);
        Check.due("ticks", x.told(2), 20);
        Check.due("until the turn is over", x.state(0, 0), 12);
        x.run(1);
        Check.due("round", x.state(0, 0), 0);
        x = Check.booted(new int[] {1, 0, 16, 0, 0, 1, 0, 1}, "ask 0\nask 0\nask 0");
        x.run(3);
        Check.due("turns of one tick", x.state(0, 0), 12);
    }

    private static void ticks() {
        PartHouse x = Check.booted(Check.alone(0), "ask 4\nask 6\njump r0, -2");
        Check.due("run(0)", x.run(0), 0);
        for (int i = 0; i < 30; i++) {
            Check.due("run", x.run(2000), 2000);
        }
        Check.due("60000", x.told(2), 60000);
        Check.due("one more", x.run(1), -4);
        Check.due("none more", x.run(0), 0);
        Check.due("now", x.output(0, 0, 1), 0);
        Check.due("now", x.output(0, 1, 1), 3);
        Check.due("now", x.output(0, 199, 1), 597);
        Check.due("off", x.off(), 60000);
        Check.due("boot", x.boot(), 1);
        Check.due("run", x.run(2000), 2000);
        x = Check.booted(Check.alone(0), "back");
        Check.due("ticks of a halted one", x.run(2000), 2000);
        Check.due("too many at once", x.run(1999) + x.told(2), 1999 + 3999);
    }

    private static void flows() {
        int[] config = {5, 0, 16, 0, 16, 16, 0, 32, 16, 0, 48, 16, 0, 64, 16, 0,
            4, 2, 3, 1, 1, 2, 1, 0, 1, 1, 3, 4, 1, 1, 0, 1};
        PartHouse x = Check.booted(config, SPIN, SPIN, SPIN, SPIN, SPIN);
        for (int q = 0; q < 5; q++) {
            for (int p = 0; p < 5; p++) {
                Check.due("flows " + q + " " + p, x.flows(q, p), q <= p ? 1 : 0);
            }
        }
        Check.due("none such", x.flows(5, 0), -1);
        Check.due("none such", x.flows(0, 5), -1);
        Check.due("none such", x.flows(-1, 0), -1);
        Check.due("none such", x.flows(0, -1), -1);
        x = Check.booted(new int[] {3, 0, 16, 0, 16, 16, 0, 32, 16, 0, 2, 0, 1, 1, 1, 0, 1, 1, 2, 1}, SPIN, SPIN, SPIN);
        Check.due("round", x.flows(0, 1) + x.flows(1, 0), 2);
        Check.due("apart", x.flows(2, 0) + x.flows(0, 2), 0);
        Check.due("itself", x.flows(2, 2), 1);
    }

    private static void told() {
        PartHouse x = Check.booted(Check.alone(0), SPIN);
        Check.due("told(-1)", x.told(-1), -2);
        Check.due("told(9)", x.told(9), -2);
        Check.due("told(6)", x.told(6), 0);
        x.make(0, 5, 0, 0);
        Check.due("told(6)", x.told(6), 1);
        x.off();
        Check.due("told(0)", x.told(0), 0);
        Check.due("told(3)", x.told(3), 1);
        x.boot();
        Check.due("the outside keeps its table", x.told(6), 1);
    }
}
