/** Promises 5 to 10: THE ROW, what is kept, and SHOWING words. */
public final class RowTest {
    public static void main(String[] args) {
        feeding();
        keeping();
        showing();
        showingAll();
        Check.end("RowTest");
    }

    private static void feeding() {
        PartHouse x = new PartHouse();
        Check.due("drop(1) of none", x.drop(1), -2);
        Check.due("drop(0) of none", x.drop(0), 0);
        Check.due("feed", x.feed(1, -2, 3, 1 << 31), 4);
        Check.due("feed", x.feed(5, 6, 7, 8), 8);
        int[] all = {1, -2, 3, 1 << 31, 5, 6, 7, 8};
        for (int i = 0; i < all.length; i++) {
            Check.due("word(" + i + ")", x.word(i), all[i]);
        }
        Check.due("word(-1)", x.word(-1), 0);
        Check.due("word(8)", x.word(8), 0);
        Check.due("word(2048)", x.word(2048), 0);
        Check.due("drop(-1)", x.drop(-1), -2);
        Check.due("drop(9)", x.drop(9), -2);
        Check.due("told(7)", x.told(7), 8);
        Check.due("drop(3)", x.drop(3), 5);
        Check.due("word(4)", x.word(4), 5);
        Check.due("word(5)", x.word(5), 0);
        Check.due("drop(5)", x.drop(5), 0);
        Check.due("feed behind assembled words", Check.assemble(x, "room 2044"), 2044);
        Check.due("feed", x.feed(1, 2, 3, 4), 2048);
        Check.due("feed", x.feed(1, 2, 3, 4), -4);
        Check.due("drop", x.drop(3), 2045);
        Check.due("feed", x.feed(9, 9, 9, 9), -4);
        Check.due("word(2044)", x.word(2044), 1);
        Check.due("word(2045)", x.word(2045), 0);
        Check.due("drop", x.drop(1), 2044);
        Check.due("feed", x.feed(9, 9, 9, 7), 2048);
        Check.due("word(2047)", x.word(2047), 7);
    }

    private static void keeping() {
        PartHouse x = new PartHouse();
        for (int what = 0; what <= 9; what++) {
            Check.due("keep of no word", x.keep(what), -2);
        }
        Check.due("keep(-1)", x.keep(-1), -1);
        Check.due("keep(10)", x.keep(10), -1);
        x.feed(1, 2, 3, 4);
        Check.due("keep(10) of words", x.keep(10), -1);
        Check.due("told(7)", x.told(7), 4);
        Check.due("keep(7)", x.keep(7), 4);
        Check.due("the row is empty", x.told(7), 0);
        Check.due("word(0)", x.word(0), 0);
        Check.assemble(x, "room 257");
        Check.due("a loader of 257", x.keep(8), -2);
        x.drop(1);
        Check.due("a loader of 256", x.keep(8), 256);
        Check.assemble(x, "room 201");
        Check.due("a config of 201", x.keep(9), -2);
        Check.due("told(7)", x.told(7), 201);
        x.drop(1);
        Check.due("a config of 200", x.keep(9), 200);
        Check.assemble(x, "room 2048");
        Check.due("an image of 2048", x.keep(0), 2048);
        Check.due("safe of it", x.safe(0, 2048), -100);
    }

    private static void shows(int w, String text) {
        Check.due("show(" + w + ")", Check.shownText(new PartHouse(), w), text);
    }

    private static void showing() {
        shows(0, "word 0");
        shows(-1, "word -1");
        shows(0xA0000000, "word -1610612736");
        shows(1 << 31, "blt r0, r0, 0");
        shows(Integer.MAX_VALUE, "bne r15, r15, -1");
        shows(1 << 26, "add r0, r0, r0");
        shows(1 << 26 | 15 << 22 | 10 << 18 | 9 << 14, "add r15, r10, r9");
        shows(1 << 26 | 1, "word 67108865");
        shows(11 << 26 | 1 << 13, "word " + (11 << 26 | 1 << 13));
        shows(12 << 26 | 0x20000, "addi r0, r0, -131072");
        shows(20 << 26 | 0x3FFFF, "belowi r0, r0, -1");
        shows(21 << 26 | 0x3FFFF, "high r0, 262143");
        shows(21 << 26 | 3 << 22 | 0x20000, "high r3, 131072");
        shows(21 << 26 | 1 << 18, "word " + (21 << 26 | 1 << 18));
        shows(24 << 26 | 1 << 22 | 2 << 18 | 100, "ldhu r1, r2, 100");
        shows(29 << 26 | 1 << 22 | 2 << 18 | 10, "sto r1, r2, 10");
        shows(30 << 26 | 1 << 22 | 2 << 18 | 0x3FFFD, "beq r1, r2, -3");
        shows(36 << 26 | 4 << 22 | 7, "jump r4, 7");
        shows(36 << 26 | 8 << 18 | 7, "word " + (36 << 26 | 8 << 18 | 7));
        shows(37 << 26 | 4 << 22 | 5 << 18 | 8, "jumpr r4, r5, 8");
        shows(38 << 26 | 34, "ask 34");
        shows(38 << 26 | 131071, "ask 131071");
        shows(38 << 26 | 131072, "word " + (38 << 26 | 131072));
        shows(38 << 26 | 1 << 18, "word " + (38 << 26 | 1 << 18));
        shows(38 << 26 | 1 << 22, "word " + (38 << 26 | 1 << 22));
        shows(39 << 26, "back");
        shows(39 << 26 | 1, "word " + (39 << 26 | 1));
        shows(40 << 26, "word " + (40 << 26));
        shows(63 << 26, "word " + (63 << 26));
        PartHouse x = new PartHouse();
        Check.due("shown before", x.shown(0), 0);
        Check.due("show", x.show(1000), 9);
        Check.due("show less", x.show(39 << 26), 4);
        Check.due("shown(3)", x.shown(3), 'k');
        Check.due("shown(4)", x.shown(4), 0);
        Check.due("shown(-1)", x.shown(-1), 0);
        Check.due("shown(40)", x.shown(40), 0);
        Check.due("shown(400)", x.shown(400), 0);
    }

    /** What is shown makes the word that was shown. */
    private static void showingAll() {
        java.util.Random random = new java.util.Random(7);
        for (int i = 0; i < 3000; i++) {
            int w = random.nextInt();
            int bits = random.nextInt(5);
            w &= bits == 0 ? 0xFC000000 : bits == 1 ? 0xFFFFC000 : bits == 2 ? 0xFFC3FFFF : bits == 3 ? 0xFC01FFFF : -1;
            w = random.nextInt(3) == 0 ? w : w & 0x3FFFFFF | 1 + random.nextInt(40) << 26;
            PartHouse x = new PartHouse();
            String text = Check.shownText(x, w);
            Check.due("assemble of <" + text + ">", Check.assemble(x, text), 1);
            Check.due("word of <" + text + ">", x.word(0), w);
            if (text.startsWith("word")) {
                Check.due("no other statement of <" + text + ">", isInstruction(w) ? 1 : 0, 0);
            }
        }
    }

    private static boolean isInstruction(int w) {
        int op = w >>> 26;
        int d = w >>> 22 & 15;
        int a = w >>> 18 & 15;
        if (op >= 1 && op <= 11) {
            return w << 18 == 0;
        }
        if (op == 21 || op == 36) {
            return a == 0;
        }
        if (op == 38) {
            return a == 0 && d == 0 && (w & 0x20000) == 0;
        }
        return op >= 12 && op <= 37 || w == 39 << 26;
    }
}
