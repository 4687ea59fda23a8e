import java.util.function.IntSupplier;

/** What the tests share: they count wrong answers, type texts, feed rows and boot. */
final class Check {
    static final int LOADER = 8;
    static final int CONFIG = 9;

    private static int wrong;
    private static int asked;
    private static String sentence = "";

    private Check() {
    }

    /** The words of the document that are tested from here on; a wrong answer is told with them. */
    static void about(String words) {
        sentence = "\"" + words + "\": ";
    }

    /** Tells an answer that is not the one that is due. */
    static void due(String call, long got, long want) {
        asked++;
        if (got != want) {
            wrong++;
            if (wrong <= 40) {
                System.out.println(sentence + call + " answered " + got + ", due is " + want);
            }
        }
    }

    /** A call that is refused: all that the face shows stays as it was. */
    static void refused(PartHouse x, String call, IntSupplier asks, int want) {
        String before = Snapshot.of(x);
        due(call, asks.getAsInt(), want);
        String after = Snapshot.of(x);
        due(call + " changes nothing" + Snapshot.difference(before, after), before.equals(after) ? 0 : 1, 0);
    }

    static void due(String call, String got, String want) {
        due(call + " as a text (" + got + " / " + want + ")", got.equals(want) ? 1 : 0, 1);
    }

    /** Ends the test: exit code 1 if an answer was wrong. */
    static void end(String test) {
        System.out.println(test + ": " + asked + " answers, " + wrong + " wrong");
        if (wrong != 0 || asked == 0) {
            System.exit(1);
        }
    }

    /** THE TEXT becomes this one: the answer of the last type(). */
    static int typeText(PartHouse x, String text) {
        int answer = x.type(0, 0);
        for (int i = 0; i < text.length(); i += 8) {
            int n = Math.min(8, text.length() - i);
            long v = 0;
            for (int k = 0; k < n; k++) {
                v = v << 8 | text.charAt(i + k);
            }
            answer = x.type(v, n);
        }
        return answer;
    }

    static int assemble(PartHouse x, String text) {
        typeText(x, text);
        return x.assemble();
    }

    /** Assembles a text that has one fault. */
    static void fault(String text, int fault, int place) {
        PartHouse x = new PartHouse();
        due("assemble of <" + text + ">", assemble(x, text), -10 - fault);
        due("place of <" + text + ">", x.place(), place);
    }

    /** Assembles a text that has none. */
    static void makes(String text, int... words) {
        PartHouse x = new PartHouse();
        due("assemble of <" + text + ">", assemble(x, text), words.length);
        due("place of <" + text + ">", x.place(), -1);
        for (int i = 0; i < words.length; i++) {
            due("word " + i + " of <" + text + ">", x.word(i), words[i]);
        }
    }

    static String shownText(PartHouse x, int w) {
        int n = x.show(w);
        StringBuilder text = new StringBuilder();
        for (int k = 0; k < n; k++) {
            text.append((char) x.shown(k));
        }
        return text.toString();
    }

    /** THE ROW becomes these words. */
    static void row(PartHouse x, int... words) {
        x.drop(x.told(7));
        for (int i = 0; i < words.length; i += 4) {
            x.feed(words[i], at(words, i + 1), at(words, i + 2), at(words, i + 3));
        }
        x.drop(x.told(7) - words.length);
    }

    private static int at(int[] words, int i) {
        return i < words.length ? words[i] : 0;
    }

    static int keepRow(PartHouse x, int what, int... words) {
        row(x, words);
        return x.keep(what);
    }

    static void keepText(PartHouse x, int p, String text) {
        int count = assemble(x, text);
        if (count <= 0) {
            due("assemble of an image (" + text.substring(0, Math.min(60, text.length())) + ", place " + x.place() + ")", count, 1);
        }
        due("keep of an image", x.keep(p), count);
    }

    /** A new object with a loader, this CONFIG and these images. */
    static PartHouse house(int[] config, String... images) {
        PartHouse x = new PartHouse();
        keepRow(x, LOADER, 1, 2, 3);
        keepRow(x, CONFIG, config);
        for (int p = 0; p < images.length; p++) {
            keepText(x, p, images[p]);
        }
        return x;
    }

    /** The same, booted. */
    static PartHouse booted(int[] config, String... images) {
        PartHouse x = house(config, images);
        due("boot", x.boot(), config[0]);
        return x;
    }

    /** A CONFIG of one partition with 64 words, so many BLOBS and one slot. */
    static int[] alone(int area) {
        return new int[] {1, 0, 64, area, 0, 1, 0, 100};
    }

    /** Runs one partition on a text of its own, for so many ticks. */
    static PartHouse ran(int ticks, String image) {
        PartHouse x = booted(alone(2), image);
        due("run", x.run(ticks), ticks);
        return x;
    }
}
