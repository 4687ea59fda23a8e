import java.util.Random;

/** Promise 34: a boot that is run again without what must not flow to a partition. */
public final class PurgeTest {
    public static void main(String[] args) {
        refusals();
        inputsAndSecrets();
        manyInputs();
        disks();
        keptLater();
        notTold();
        atRandom();
        Check.end("PurgeTest");
    }

    private static void refusals() {
        PartHouse x = new PartHouse();
        Check.due("no boot", x.purge(0), -1);
        x = Check.booted(Check.alone(0), "back");
        Check.due("none such", x.purge(1), -1);
        Check.due("none such", x.purge(-1), -1);
        Check.due("no tick yet", x.purge(0), 1);
    }

    private static void inputsAndSecrets() {
        String text = "x: ask 5\nask 6\nask 12\nask 11\nask 21\nask 11\nask 0\njump r0, x";
        int[] config = {3, 0, 32, 1, 32, 32, 1, 64, 32, 1, 1, 0, 1, 1, 4, 0, 7, 1, 9, 2, 5, 0, 3};
        PartHouse x = Check.booted(config, text, text, text);
        x.make(2, 0, 0, 0);
        x.make(0, 5, 0, 0);
        for (int i = 0; i < 60; i++) {
            x.input(i % 3, 100 + i);
            x.inputTerm(i * 7 % 3, 1 + i % 2);
            x.run(i);
        }
        for (int p = 0; p < 3; p++) {
            Check.due("purge " + p, x.purge(p), 1);
        }
        Check.due("outputs stay", x.state(0, 7) > 100 ? 1 : 0, 1);
        int writes = x.told(5);
        int pc = x.state(1, 0);
        Check.due("purge", x.purge(1), 1);
        Check.due("ticks stay", x.told(2), 59 * 30);
        Check.due("writes stay", x.told(5), writes);
        Check.due("pc stays", x.state(1, 0), pc);
        Check.due("it is ON yet", x.told(0), 1);
        Check.due("and runs", x.run(10), 10);
        Check.due("purge", x.purge(1) + x.purge(2), 2);
    }

    private static void manyInputs() {
        PartHouse x = Check.booted(Check.alone(0), "ask 5\nask 6\njump r0, -2");
        for (int i = 1; i <= 501; i++) {
            x.input(0, i);
            Check.due("input", x.state(0, 8), (i - 1) % 50 + 1);
            if (i % 50 == 0) {
                x.run(150);
            }
            if (i == 500) {
                Check.due("500 inputs", x.purge(0), 1);
            }
        }
        Check.due("501 inputs", x.purge(0), -4);
        Check.due("none such first", x.purge(1), -1);
        x.off();
        x.boot();
        Check.due("another boot", x.purge(0), 1);
    }

    private static void disks() {
        String text = "addi r1, r0, 0\nask 34\nask 6\naddi r1, r0, 0\nask 33\nask 6\nx: ask 21\nadd r2, r1, r0\naddi r1, r0, 0\nask 32\n"
            + "ask 6\nask 0\njump r0, x";
        int[] config = {2, 0, 32, 1, 32, 32, 1, 0, 2, 0, 20, 1, 20};
        PartHouse x = Check.booted(config, text, text);
        x.run(400);
        Check.due("purge", x.purge(0) + x.purge(1), 2);
        int v0 = x.block(0, 0);
        int writes = x.told(5);
        x.off();
        x.boot();
        x.run(400);
        Check.due("the version it began with", x.output(0, 0, 1), 10);
        Check.due("purge", x.purge(0) + x.purge(1), 2);
        Check.due("the disk went on", x.block(0, 0) - v0, 10);
        Check.due("writes", x.told(5), 2 * writes);
        x.off();
        x.block(0, 1);
        x.put(0, 0, 0);
        x.put(1, 77, 1);
        Check.due("as the blocks were when it began", x.purge(0) + x.purge(1), 2);
        Check.due("the disk stays", x.block(1, 0), 77);
        x.boot();
        x.cut(3);
        int over = x.run(2000);
        Check.due("OFF", x.told(0), 0);
        Check.due("ticks", x.told(2), over);
        Check.due("the power does not go", x.purge(0) + x.purge(1), 2);
        Check.due("the disk stays", x.told(5), 2 * writes + 3);
    }

    private static void keptLater() {
        PartHouse x = Check.booted(new int[] {2, 0, 32, 0, 32, 32, 0, 1, 0, 1, 1, 2, 0, 9, 1, 8},
            "x: addi r5, r5, 1\nadd r1, r5, r0\nask 6\nstw r5, r0, 100\naddi r1, r0, 0\naddi r2, r0, 100\nask 7\njump r0, x",
            "x: addi r1, r0, 0\naddi r2, r0, 100\nask 8\nask 6\nldw r1, r0, 100\nask 6\njump r0, x");
        x.run(300);
        Check.keepText(x, 0, "back");
        Check.keepText(x, 1, "back");
        Check.keepRow(x, 9, 1);
        Check.keepRow(x, 8, 1);
        Check.due("purge", x.purge(0) + x.purge(1), 2);
    }

    private static void notTold() {
        // Run again, the partition puts out its SECRET as it did; what is known stays as it was.
        PartHouse x = Check.booted(Check.alone(1), "ask 21\nask 21\nadd r2, r1, r0\naddi r1, r0, 0\nask 32\naddi r1, r0, 1\nask 11\nback");
        x.run(10);
        Check.due("known", x.knows(0, 1) * 10 + x.knows(0, 2), 10);
        Check.due("purge", x.purge(0), 1);
        Check.due("known", x.knows(0, 1) * 10 + x.knows(0, 2), 10);
        Check.due("handles", x.told(6), 0);
        Check.due("writes", x.told(5), 1);
    }

    /** No program of one partition tells another what does not flow to it. */
    private static void atRandom() {
        Random random = new Random(17);
        for (int i = 0; i < 150; i++) {
            int partitions = 2 + random.nextInt(3);
            PartHouse x = new PartHouse();
            Check.keepRow(x, Check.LOADER, 1, 2);
            Check.keepRow(x, Check.CONFIG, config(random, partitions));
            for (int p = 0; p < partitions; p++) {
                Check.keepText(x, p, program(random));
            }
            Check.due("boot", x.boot(), partitions);
            x.make(2, 0, 0, 0);
            x.make(0, 3, 0, 0);
            for (int k = 0; k < 12; k++) {
                x.run(random.nextInt(60));
                x.input(random.nextInt(partitions), random.nextInt(9));
                x.inputTerm(random.nextInt(partitions), 1 + random.nextInt(2));
                if (k == 6 && random.nextInt(3) == 0) {
                    x.off();
                    x.boot();
                    x.cut(random.nextInt(20));
                }
            }
            for (int p = 0; p < partitions; p++) {
                Check.due("purge " + p + " in " + i, x.purge(p), 1);
            }
        }
    }

    private static int[] config(Random random, int partitions) {
        java.util.List<Integer> row = new java.util.ArrayList<>();
        row.add(partitions);
        for (int p = 0; p < partitions; p++) {
            java.util.Collections.addAll(row, 100 * p, 100, random.nextInt(3));
        }
        int channels = random.nextInt(4);
        row.add(channels);
        for (int c = 0; c < channels; c++) {
            int from = random.nextInt(partitions);
            java.util.Collections.addAll(row, from, (from + 1 + random.nextInt(partitions - 1)) % partitions, 1 + random.nextInt(3));
        }
        int slots = 1 + random.nextInt(5);
        row.add(slots);
        for (int s = 0; s < slots; s++) {
            java.util.Collections.addAll(row, random.nextInt(6) == 0 ? 255 : random.nextInt(partitions), 1 + random.nextInt(30));
        }
        return row.stream().mapToInt(Integer::intValue).toArray();
    }

    private static String program(Random random) {
        StringBuilder text = new StringBuilder("x: ");
        for (int i = 0; i < 20; i++) {
            int[] often = {0, 4, 5, 7, 8, 9, 10, 11, 12, 21, 30, 32, 33, 34, 14, 19, 6};
            for (int r = 1; r <= 3; r++) {
                if (random.nextInt(2) == 0) {
                    text.append("addi r" + r + ", r0, " + (r == 2 && random.nextInt(2) == 0 ? 360 : random.nextInt(5)) + "\n");
                }
            }
            text.append("ask " + (random.nextInt(4) == 0 ? 1 + random.nextInt(34) : often[random.nextInt(often.length)]) + "\nask 6\n");
        }
        return text + "jump r0, x";
    }
}
