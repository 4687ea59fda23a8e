import java.util.Random;
import java.util.TreeSet;

/** Promise 11: SAFE IMAGES. */
public final class SafeTest {
    public static void main(String[] args) {
        refusals();
        cases();
        againstTheWords();
        Check.end("SafeTest");
    }

    private static void refusals() {
        PartHouse x = new PartHouse();
        Check.due("none is kept", x.safe(0, 16), -1);
        Check.due("none is kept, n is wrong", x.safe(0, 15), -1);
        Check.keepText(x, 3, "room 17");
        Check.due("none such", x.safe(8, 16), -1);
        Check.due("none such", x.safe(-1, 16), -1);
        Check.due("another's", x.safe(2, 16), -1);
        Check.due("15 words", x.safe(3, 15), -2);
        Check.due("16 words", x.safe(3, 16), -2);
        Check.due("17 words", x.safe(3, 17), -100);
        Check.due("2048 words", x.safe(3, 2048), -100);
        Check.due("2049 words", x.safe(3, 2049), -2);
        Check.keepText(x, 7, "x: jump r0, x");
        Check.due("the last one's", x.safe(7, 16), 1);
        Check.due("again", x.safe(3, 17), -100);
        Check.due("again", x.safe(7, 16), 1);
        Check.keepText(x, 6, "jump r0, x\nroom 3\nx: stw r0, r0, 0\njump r0, x");
        Check.due("it stores into what is reached", x.safe(6, 16), -104);
        Check.keepText(x, 6, "x: stw r0, r0, 16\njump r0, x");
        Check.due("what another image reached does not count", x.safe(6, 16), 1);
        Check.keepRow(x, 8, 1);
        Check.due("the loader is no image", x.safe(8, 16), -1);
    }

    private static void safe(String image, int n, int want) {
        PartHouse x = new PartHouse();
        Check.keepText(x, 0, image);
        Check.due("safe of <" + image + ">", x.safe(0, n), want);
    }

    private static void cases() {
        safe("x: addi r1, r1, 1\njump r0, x", 16, 1);
        safe("addi r1, r1, 1", 16, -101);
        safe("jump r0, -1", 16, -100);
        safe("add r1, r1, r1\njump r0, -7", 16, -100);
        safe("jump r0, 5", 16, -105);
        safe("beq r0, r0, 0\njump r0, 0", 16, 1);
        safe("beq r0, r0, 3\njump r0, 0", 16, -103);
        safe("x: jumpr r0, r0, 0\njump r0, x", 16, -100);
        safe("x: back\njump r0, x", 16, -100);
        safe("x: word 0\njump r0, x", 16, -100);
        safe("x: ask 1\njump r0, x", 16, -100);
        safe("x: ask 8\njump r0, x", 16, -100);
        safe("x: ask 35\njump r0, x", 16, -100);
        safe("x: word 0x9803ffff\njump r0, x", 16, -100);
        safe("x: ask 0\nask 2\nask 7\nask 9\nask 34\njump r0, x", 16, 1);
        safe("x: ldw r1, r1, 0\njump r0, x", 16, -100);
        safe("x: ldw r1, r0, 0\njump r0, x", 16, 1);
        safe("x: ldw r1, r0, 2\njump r0, x", 16, -100);
        safe("x: ldw r1, r0, 60\njump r0, x", 16, 1);
        safe("x: ldw r1, r0, 64\njump r0, x", 16, -100);
        safe("x: ldw r1, r0, 64\njump r0, x", 17, 1);
        safe("x: ldo r1, r0, -1\njump r0, x", 16, -100);
        safe("x: ldou r1, r0, 63\njump r0, x", 16, 1);
        safe("x: ldhu r1, r0, 61\njump r0, x", 16, -100);
        safe("x: sth r1, r0, 62\njump r0, x", 16, 1);
        safe("x: stw r1, r1, 60\njump r0, x", 16, -100);
        safe("x: stw r1, r0, 4\njump r0, x", 16, -100);
        safe("x: sto r1, r0, 7\njump r0, x", 16, -100);
        safe("x: stw r1, r0, 8\njump r0, x", 16, 1);
        safe("x: stw r1, r0, 8\njump r0, x\nback", 16, 1);
        safe("x: jump r0, y\nroom 3\ny: stw r1, r0, 8\njump r0, x", 16, 1);
        safe("jump r0, x\nback\nx: back\ny: jump r0, y", 16, -102);
        // The word behind a BAD one is REACHED too, unless that one is a jump.
        safe("jump r0, x\ny: back\nz: jump r0, z\nx: word 0\njump r0, y", 16, -101);
        safe("jump r0, x\ny: back\nz: jump r0, z\nx: jumpr r0, r0, 0\njump r0, y", 16, -101);
    }

    private static void againstTheWords() {
        Random random = new Random(11);
        for (int i = 0; i < 4000; i++) {
            int length = 1 + random.nextInt(12);
            int[] image = new int[length];
            for (int k = 0; k < length; k++) {
                image[k] = randomWord(random, length);
            }
            int n = Math.max(16, length) + random.nextInt(3);
            PartHouse x = new PartHouse();
            Check.keepRow(x, 5, image);
            Check.due("safe of " + java.util.Arrays.toString(image), x.safe(5, n), safeByTheWords(image, n));
        }
    }

    private static int randomWord(Random random, int length) {
        int op = random.nextInt(12);
        int m = random.nextInt(20) == 0 ? random.nextInt(40) - 10 : random.nextInt(length + 1) - random.nextInt(length + 1);
        if (op == 0) {
            return 30 + random.nextInt(6) << 26 | m & 0x3FFFF;
        }
        if (op <= 3) {
            return 36 << 26 | m & 0x3FFFF;
        }
        if (op == 4) {
            return 38 << 26 | random.nextInt(36);
        }
        if (op <= 6) {
            int a = random.nextInt(12) == 0 ? 1 : 0;
            int address = random.nextInt(12) == 0 ? random.nextInt(90) - 9 : 4 * random.nextInt(17);
            return 22 + random.nextInt(8) << 26 | a << 18 | address & 0x3FFFF;
        }
        return random.nextInt(60) == 0 ? random.nextInt() : 1 + random.nextInt(21) << 26;
    }

    private static int safeByTheWords(int[] image, int n) {
        TreeSet<Integer> reached = new TreeSet<>();
        reached.add(0);
        boolean grew = true;
        while (grew) {
            grew = false;
            for (int place : reached.toArray(new Integer[0])) {
                if (place < 0 || place >= image.length) {
                    continue;
                }
                int op = image[place] >>> 26;
                int m = (image[place] & 0x3FFFF) - ((image[place] & 0x20000) << 1);
                grew |= op != 36 && reached.add(place + 1);
                grew |= op >= 30 && op <= 36 && reached.add(place + m);
            }
        }
        for (int place : reached) {
            if (place < 0 || place >= image.length || isBad(image, place, n, reached)) {
                return -100 - Math.max(place, 0);
            }
        }
        return 1;
    }

    private static boolean isBad(int[] image, int place, int n, TreeSet<Integer> reached) {
        int w = image[place];
        int op = w >>> 26;
        int m = (w & 0x3FFFF) - ((w & 0x20000) << 1);
        if (op == 0 || op == 37 || op > 38) {
            return true;
        }
        if (op == 38) {
            return m == 1 || m == 8 || m < 0 || m > 34;
        }
        if (op < 22 || op > 29) {
            return false;
        }
        int[] wide = {4, 2, 2, 1, 1, 4, 2, 1};
        int octets = wide[op - 22];
        if ((w >> 18 & 15) != 0 || m < 0 || m + octets > 4 * n || m % octets != 0) {
            return true;
        }
        return op >= 27 && m / 4 < image.length && reached.contains(m / 4);
    }
}
