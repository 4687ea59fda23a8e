/** Section 7 (promises 14, 23, 24, 35): THE DISK, SEALS, and power that goes. */
public final class DiskTest {
    public static void main(String[] args) {
        seals();
        areas();
        rollback();
        otherImages();
        otherBlobs();
        likeVersions();
        puts();
        cuts();
        fortySeals();
        Check.end("DiskTest");
    }

    private static void seals() {
        PartHouse x = new Script().ask(33, -3, 0).ask(34, 0, 0).ask(33, -1, 3).ask(34, -1, 3).ask(33, -1, -1).ask(34, -1, -1)
            .ask(32, -1, 3, 1).ask(32, -1, -1, 1).ask(32, -2, 0, 1).ask(32, -1, 3, 9)
            .ask(13, 1, 5).ask(15, 2, 1).ask(32, 1, 0, 1).ask(33, 1, 0).ask(34, 1, 0)
            .ask(32, 2, 0, 2).ask(33, 2, 0).ask(34, 2, 0).ask(32, 3, 0, 1).ask(33, 1, 0)
            .ask(34, 0, 1).ask(33, -3, 1).ask(32, 1, 2, 2).ask(34, 1, 2).runs();
        Check.due("version of block 0", x.block(0, 0), 2);
        Check.due("version of block 1", x.block(1, 0), 3);
        Check.due("blocks 2, 3, 4", x.block(2, 0) + x.block(3, 0) + x.block(4, 0), 0);
        Check.due("version of block 5", x.block(5, 0), 1);
        Check.due("an empty block", x.block(4, 1), 0);
        Check.due("seals", x.state(0, 10), 4);
        Check.due("writes", x.told(5), 4);
        Check.due("handle", x.block(1, 1), 1);
        Check.due("kind", x.kind(1), 8);
        Check.due("n", x.take(1, 3, 0), 2);
        Check.due("blob", x.number(x.take(2, 0, 0)), 0);
        Check.due("version", x.number(x.take(2, 1, 0)), 3);
        Check.due("n of block 5", x.take(x.block(5, 1), 3, 0), 6);
        Check.due("blob", x.number(x.take(6, 0, 0)), 2);
        Check.due("version", x.number(x.take(6, 1, 0)), 1);
        Check.due("none such", x.block(-1, 0), -1);
        Check.due("none such", x.block(64, 5), -1);
        Check.due("another what", x.block(0, 2), -2);
        Check.due("another what", x.block(0, -1), -2);
        Check.due("the last", x.block(63, 0) + x.block(63, 1), 0);
    }

    private static void areas() {
        String seal = new Script().silent(13, 5).silent(32, 0, 1).silent(32, 1, 1).image();
        int[] config = {3, 0, 64, 2, 64, 64, 1, 128, 64, 3, 0, 3, 0, 20, 1, 20, 2, 20};
        PartHouse x = Check.booted(config, seal, seal, seal);
        x.run(60);
        int[] versions = {0, 1, 0, 1, 0, 1, 0, 1, 0, 1, 0};
        for (int i = 0; i < versions.length; i++) {
            Check.due("block " + i, x.block(i, 0), versions[i]);
        }
        Check.due("partition 1 has no second", x.register(1, 1), -1);
        Check.due("seals", x.state(0, 10) * 100 + x.state(1, 10) * 10 + x.state(2, 10), 212);
    }

    /** Seals 10, 11 and 12 as versions 1, 2 and 3 in a first boot; then asks only. */
    private static PartHouse sealed() {
        String text = "addi r1, r0, 0\nask 34\nask 6\naddi r1, r0, 0\nask 33\nask 23\nask 6\nask 5\nbeq r2, r0, 0\nask 13\n"
            + "add r2, r1, r0\naddi r1, r0, 0\nask 32\nask 6\njump r0, -7";
        PartHouse x = Check.booted(Check.alone(2), text);
        for (int i = 10; i <= 12; i++) {
            x.input(0, i);
        }
        x.run(40);
        Check.due("sealed", x.state(0, 10), 3);
        Check.due("block 0", x.block(0, 0), 2);
        Check.due("block 1", x.block(1, 0), 3);
        Check.due("handles", x.block(0, 1) * 10 + x.block(1, 1), 12);
        x.off();
        return x;
    }

    /** Boots and looks: the version that counts, and what it has. */
    private static void counts(PartHouse x, int version, int word) {
        Check.due("boot", x.boot(), 1);
        x.run(8);
        Check.due("version", x.output(0, 0, 1), version);
        Check.due("word", x.output(0, 1, 1), word);
        x.off();
    }

    private static void rollback() {
        PartHouse x = sealed();
        counts(x, 3, 12);
        x.put(1, 0, 0);
        counts(x, 2, 11);
        x.put(1, 3, 2);
        counts(x, 3, 12);
        x.put(0, 3, 2);
        counts(x, 3, 12);
        x.put(1, 9, 9);
        x.put(1, 2, 1);
        counts(x, 3, 12);
        x.put(0, 2, 2);
        x.put(1, 0, 0);
        counts(x, 0, 0);
        x.put(1, 4, 2);
        counts(x, 0, 0);
        x.put(1, 2, 1);
        counts(x, 2, 11);
        x.boot();
        x.input(0, 44);
        x.run(20);
        Check.due("the next version", x.output(0, 2, 1), 3);
        Check.due("is in block 1", x.block(1, 0) * 10 + x.block(0, 0), 32);
    }

    private static void otherImages() {
        PartHouse x = sealed();
        Check.keepText(x, 0, new Script().ask(34, 0, 0).ask(33, -3, 0).ask(13, 1, 3).ask(32, 1, 0, 1).ask(33, 1, 0).image());
        x.boot();
        x.run(30);
        Check.due("another image has none", x.output(0, 0, 1), 0);
        Check.due("nor can unseal", x.output(0, 1, 1), -3);
        Check.due("it seals version 1", x.output(0, 3, 1), 1);
        Check.due("over the old one", x.block(1, 0), 1);
        Check.due("and leaves the other", x.block(0, 0), 2);
    }

    private static void otherBlobs() {
        PartHouse x = sealed();
        Check.due("a copy for blob 1", x.put(2, 2, 1), 0);
        Check.due("a copy for blob 1", x.put(3, 3, 2), 0);
        Check.keepText(x, 1, "back");
        counts(x, 3, 12);
        // The same image under another loader measures otherwise.
        Check.keepRow(x, 8, 9);
        counts(x, 0, 0);
        Check.keepRow(x, 8, 1, 2, 3);
        counts(x, 3, 12);
        PartHouse y = Check.booted(Check.alone(2), new Script().silent(13, 7).silent(32, 0, 1).silent(0).does("ask 0")
            .ask(34, 0, 1).ask(33, -3, 1).image());
        y.run(7);
        y.block(1, 1);
        y.off();
        Check.due("its term as blob 1's", y.put(3, 1, 1), 0);
        y.boot();
        y.run(400);
        Check.due("is not right", y.output(0, 0, 1), 0);
        Check.due("is not right", y.output(0, 1, 1), -3);
    }

    /** Of two right copies of like versions the first one counts. */
    private static void likeVersions() {
        String text = "ask 5\nbeq r2, r0, look\nask 13\nadd r2, r1, r0\nadd r1, r0, r0\nask 32\nback\n"
            + "look: add r1, r0, r0\nask 33\nask 23\nback";
        PartHouse x = Check.booted(Check.alone(1), text);
        x.input(0, 70);
        x.run(10);
        Check.due("the first", x.block(1, 1), 1);
        x.off();
        x.put(1, 0, 0);
        x.boot();
        x.input(0, 80);
        x.run(10);
        Check.due("the second", x.block(1, 1), 2);
        Check.due("is version 1 too", x.block(1, 0), 1);
        x.off();
        int[][] copies = {{1, 2, 70}, {2, 1, 80}, {0, 1, 70}, {0, 2, 80}, {2, 0, 80}};
        for (int[] c : copies) {
            x.put(0, 1, c[0]);
            x.put(1, 1, c[1]);
            x.boot();
            x.run(10);
            Check.due("copies " + c[0] + ", " + c[1], x.register(0, 1), c[2]);
            x.off();
        }
    }

    private static void puts() {
        PartHouse x = new PartHouse();
        Check.due("make", x.make(0, 5, 0, 0), 1);
        Check.due("put", x.put(63, 7, 1), 0);
        Check.due("block", x.block(63, 0) * 10 + x.block(63, 1), 71);
        Check.due("no block", x.put(64, 7, 1), -1);
        Check.due("no block", x.put(-1, 0, 1), -1);
        Check.due("no handle", x.put(0, 0, 2), -1);
        Check.due("no handle", x.put(0, 1, -1), -1);
        Check.due("version", x.put(63, 0, 1), -2);
        Check.due("version", x.put(63, -7, 1), -2);
        Check.due("it stays", x.block(63, 0), 7);
        Check.due("most", x.put(62, Integer.MAX_VALUE, 1), 0);
        Check.due("most", x.block(62, 0), Integer.MAX_VALUE);
        Check.due("empty", x.put(63, -7, 0), 0);
        Check.due("empty", x.block(63, 0) + x.block(63, 1), 0);
        Check.keepRow(x, 8, 1);
        Check.keepRow(x, 9, Check.alone(2));
        Check.keepText(x, 0, "back");
        x.boot();
        Check.due("ON", x.put(63, 7, 1), -3);
        Check.due("ON", x.put(63, 7, 0), -3);
        Check.due("version before ON", x.put(63, 0, 1), -2);
        Check.due("no handle before ON", x.put(63, 0, 3), -1);
        Check.due("the disk stays", x.block(62, 0), Integer.MAX_VALUE);
        x.off();
        Check.due("OFF", x.put(63, 7, 1), 0);
    }

    private static void cuts() {
        String text = "ask 21\nadd r5, r1, r0\nx: addi r1, r0, 1\nadd r2, r5, r0\nask 32\naddi r6, r6, 1\njump r0, x";
        PartHouse x = Check.booted(Check.alone(2), text);
        Check.due("cut(-1)", x.cut(-1), -2);
        Check.due("cut(1001)", x.cut(1001), -2);
        Check.due("cut(1000)", x.cut(1000), 1000);
        Check.due("cut(3)", x.cut(3), 3);
        Check.due("run", x.run(2000), 2 + 5 + 5 + 2);
        Check.due("OFF", x.told(0), 0);
        Check.due("ticks", x.told(2), 14);
        Check.due("writes", x.told(5), 3);
        Check.due("seals", x.state(0, 10), 2);
        Check.due("r6", x.register(0, 6), 2);
        Check.due("nothing of it is done", x.state(0, 0), 16);
        Check.due("r1 is as it was", x.register(0, 1), 1);
        Check.due("the block is empty", x.block(3, 0) + x.block(3, 1), 0);
        Check.due("the other is not", x.block(2, 0), 2);
        Check.due("off", x.off(), -3);
        Check.due("run", x.run(1), -3);
        Check.due("input", x.input(0, 1), -3);
        Check.due("boot", x.boot(), 1);
        Check.due("a boot forgets the cut", x.run(12), 12);
        Check.due("writes", x.told(5), 5);
        Check.due("versions go on", x.block(3, 0) * 10 + x.block(2, 0), 34);
        Check.due("seals", x.state(0, 10), 2);
        Check.due("cut(3)", x.cut(3), 3);
        x.off();
        x.boot();
        Check.due("a boot forgets a cut that was not used", x.run(17), 17);
        Check.due("writes", x.told(5), 8);
        Check.due("cut(1)", x.cut(1), 1);
        Check.due("cut(0)", x.cut(0), 0);
        Check.due("run", x.run(20), 20);
        Check.due("writes", x.told(5), 12);
        Check.due("cut(1)", x.cut(1), 1);
        Check.due("run", x.run(20), 2);
        Check.due("writes", x.told(5), 13);
        Check.due("off", x.told(0), 0);
        Check.due("cut", x.cut(1), -3);
    }

    private static void fortySeals() {
        String text = "ask 21\nadd r5, r1, r0\nx: addi r1, r0, 0\nadd r2, r5, r0\nask 32\nadd r6, r1, r0\njump r0, x";
        PartHouse x = Check.booted(Check.alone(1), text);
        x.run(2 + 5 * 40);
        Check.due("the 40th", x.register(0, 6), 40);
        x.run(5);
        Check.due("no 41st", x.register(0, 6), -4);
        Check.due("seals", x.state(0, 10), 40);
        Check.due("writes", x.told(5), 40);
        Check.due("block 0", x.block(0, 0), 40);
        x.off();
        x.boot();
        x.run(2 + 5);
        Check.due("in another boot", x.register(0, 6), 41);
        Check.due("block 1", x.block(1, 0), 41);
    }
}
