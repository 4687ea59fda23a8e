import java.lang.reflect.Method;
import java.util.ArrayList;
import java.util.Arrays;
import java.util.HashMap;
import java.util.List;
import java.util.Map;
import java.util.Random;

/**
 * Every promise, beside the document once more in its plainest form (PlainHouse and what it is made of): runs of at most 512 calls,
 * by chance, each answer being the same of both. With two numbers as arguments: the first seed and how many.
 */
public final class ModelTest {
    private static final int CALLS = 512;
    private static final int[] EDGES = {0, 1, -1, 2, 3, 4, 7, 8, 9, 10, 15, 16, 17, 20, 21, 31, 32, 63, 64, 65, 100, 101, 199, 200, 201,
        255, 256, 600, 1000, 1001, 2000, 2001, 2047, 2048, 2049, 8176, 60000, Integer.MAX_VALUE, Integer.MIN_VALUE, -100};
    private static final Map<String, Method> HOUSE = methods(PartHouse.class);
    private static final Map<String, Method> PLAIN = methods(PlainHouse.class);

    public static void main(String[] args) throws ReflectiveOperationException {
        int first = args.length == 2 ? Integer.parseInt(args[0]) : 0;
        int count = args.length == 2 ? Integer.parseInt(args[1]) : 700;
        for (int seed = first; seed < first + count; seed++) {
            new ModelTest(seed).go();
        }
        Check.end("ModelTest");
    }

    private static Map<String, Method> methods(Class<?> face) {
        Map<String, Method> found = new HashMap<>();
        for (Method m : face.getDeclaredMethods()) {
            found.put(m.getName(), m);
        }
        return found;
    }

    private final int seed;
    private final Random random;
    private final PartHouse house = new PartHouse();
    private final PlainHouse plain = new PlainHouse();
    private int calls;
    private int wrong;
    private int[] sizes = {};
    private int[] areas = {};
    private int[] from = {};
    private int[] to = {};

    private ModelTest(int seed) {
        this.seed = seed;
        random = new Random(seed);
    }

    private void go() throws ReflectiveOperationException {
        switch (seed % 8) {
            case 0:
                texts();
                break;
            case 1:
                images();
                break;
            case 2:
                configs();
                break;
            default:
                boots();
        }
    }

    /** Calls both; those beyond the 512th, and those after a wrong answer, are left out. */
    private int call(String name, Object... arguments) throws ReflectiveOperationException {
        if (calls >= CALLS || wrong > 0) {
            return 0;
        }
        calls++;
        int got = (Integer) HOUSE.get(name).invoke(house, arguments);
        int want = (Integer) PLAIN.get(name).invoke(plain, arguments);
        wrong += got == want ? 0 : 1;
        Check.due("seed " + seed + ", call " + calls + ": " + name + Arrays.toString(arguments), got, want);
        return want;
    }

    private int below(int n) {
        return random.nextInt(n);
    }

    private boolean once(int in) {
        return random.nextInt(in) == 0;
    }

    /** On the whole below n, at times an edge, or any number. */
    private int about(int n) {
        if (once(25)) {
            return once(4) ? random.nextInt() : EDGES[below(EDGES.length)];
        }
        return below(n);
    }

    private void type(String text) throws ReflectiveOperationException {
        for (int i = 0; i < text.length(); i += 8) {
            int n = Math.min(8, text.length() - i);
            long v = random.nextLong();
            for (int k = 0; k < n; k++) {
                v = v << 8 | text.charAt(i + k);
            }
            call("type", v, n);
        }
    }

    private void feed(List<Integer> words) throws ReflectiveOperationException {
        int[] fed = new int[(words.size() + 3) / 4 * 4];
        for (int i = 0; i < words.size(); i++) {
            fed[i] = words.get(i);
        }
        for (int i = 0; i < fed.length; i += 4) {
            call("feed", fed[i], fed[i + 1], fed[i + 2], fed[i + 3]);
        }
        call("drop", fed.length - words.size());
    }

    // ---- texts

    private static final String[] STATEMENTS = {"add RRR", "mul RRR", "below RRR", "addi RRN", "belowi RRN", "high RN", "ldw RRN", "sto RRN",
        "beq RRL", "bgeu RRL", "jump RL", "jumpr RRN", "ask N", "back ", "word L", "word N", "room N"};
    private static final String[] NAMES = {"a", "b1", "add", "r1", "room", "abcdefgh", "z9", "x", "xf", "abcdefghi"};
    private static final String[] NUMBERS = {"0", "1", "2", "3", "5", "10", "007", "131071", "131072", "262143", "262144", "2048", "2049",
        "1000", "2147483648", "2147483649", "4294967295", "4294967296", "9999999999", "12345678901", "0x0", "0xff", "0x1ffff", "0xffffffff",
        "0x123456789", "0x", "0xg", "0x1g", "0000000001"};
    private static final String[] ODD = {",", ":", "-", "\n", " ", ";", "; x\n", "?", "A", "\t", "\r", "\u00e9", "\0", "r16", "r01", "r", "r9", "- 1", "--"};

    private String register() {
        return once(30) ? one("r16", "r00", "a", "add", "5") : "r" + below(16);
    }

    private String one(String... of) {
        return of[below(of.length)];
    }

    private String number(boolean small) {
        String minus = once(4) ? "-" : "";
        return minus + (small && !once(8) ? "" + below(12) : one(NUMBERS));
    }

    private String statement() {
        String[] statement = one(STATEMENTS).split(" ", 2);
        StringBuilder text = new StringBuilder(statement[0]);
        String between = " ";
        for (char operand : statement[1].toCharArray()) {
            text.append(between);
            between = once(40) ? " " : once(3) ? "," : ", ";
            boolean small = !statement[0].equals("word");
            if (operand == 'R') {
                text.append(register());
            } else {
                text.append(operand == 'L' && once(2) ? one(NAMES) : number(small));
            }
        }
        return text.toString();
    }

    private String text() {
        StringBuilder text = new StringBuilder();
        int lines = 1 + below(12);
        for (int i = 0; i < lines; i++) {
            text.append(once(3) ? one(NAMES) + ":" + one("", " ", "\n") : "");
            text.append(once(6) ? "" : statement());
            text.append(once(25) ? one(ODD) : "").append(once(6) ? " ; remark, a: add" : "");
            text.append(i + 1 < lines || once(2) ? "\n" : "");
        }
        for (int i = once(3) ? 1 + below(2) : 0; i > 0 && text.length() > 0; i--) {
            int at = below(text.length());
            text.replace(at, at + below(2), one(ODD));
        }
        return text.toString();
    }

    private void texts() throws ReflectiveOperationException {
        while (calls < CALLS && wrong == 0) {
            String text = text();
            type(text);
            call("told", 8);
            int made = call("assemble");
            call("place");
            call("told", 7);
            for (int i = 0; i < Math.min(made + 1, 30); i++) {
                call("word", i);
            }
            showWord(once(2) ? call("word", about(8)) : below(64) << 26 | random.nextInt() & one(0x3FFFFFF, 0x3FFFC000, 0x3C3FFFF, 0x1FFFF, 0));
            call("drop", once(4) ? about(3) : 0);
        }
    }

    private int one(int... of) {
        return of[below(of.length)];
    }

    private void showWord(int w) throws ReflectiveOperationException {
        int n = call("show", w);
        for (int k = -1; k <= n; k++) {
            call("shown", k);
        }
    }

    // ---- images

    private void images() throws ReflectiveOperationException {
        while (calls < CALLS && wrong == 0) {
            int length = 1 + below(14);
            List<Integer> image = new ArrayList<>();
            for (int i = 0; i < length; i++) {
                image.add(safeWord(length));
            }
            if (!once(5)) {
                image.set(length - 1, made(36, below(16), 0, -below(length)));
            }
            feed(image);
            int p = about(8);
            call("keep", p);
            call("safe", p, once(6) ? about(2050) : length > 12 ? 16 : 16 + below(4));
        }
    }

    private int safeWord(int length) {
        switch (below(9)) {
            case 0:
            case 1:
                return made(1 + below(21), below(16), below(16), random.nextInt());
            case 2:
                return made(22 + below(8), below(16), 0, below(4 * length + 4));
            case 3:
                return made(22 + below(8), below(16), once(6) ? below(16) : 0, 4 * below(18));
            case 4:
            case 5:
                return made(30 + below(6), below(16), below(16), below(8) - 4);
            case 6:
                return once(3) ? made(36, below(16), below(16), below(9) - 4) : made(1, 0, 0, 0);
            case 7:
                return made(38, 0, 0, once(20) ? below(64) - 10 : 2 + below(6));
            default:
                return once(4) ? made(below(64), below(16), below(16), below(80)) : made(12, 1, 1, 1);
        }
    }

    private static int made(int op, int d, int a, int m) {
        return op << 26 | (d & 15) << 22 | (a & 15) << 18 | m & 0x3FFFF;
    }

    // ---- configs

    private List<Integer> config(int most, int leastSize, int spread) {
        List<Integer> words = new ArrayList<>();
        int n = 1 + below(most);
        sizes = new int[n];
        areas = new int[n];
        words.add(n);
        int base = below(20);
        for (int p = 0; p < n; p++) {
            sizes[p] = leastSize + below(spread);
            areas[p] = below(4);
            words.addAll(List.of(base, sizes[p], areas[p]));
            base += sizes[p] + (once(2) ? 0 : below(30));
        }
        int channels = n == 1 ? 0 : below(8);
        words.add(channels);
        from = new int[channels];
        to = new int[channels];
        for (int c = 0; c < channels; c++) {
            from[c] = below(n);
            to[c] = (from[c] + 1 + below(n - 1)) % n;
            words.addAll(List.of(from[c], to[c], 1 + below(once(3) ? 16 : 4)));
        }
        int slots = n + below(4);
        words.add(slots);
        for (int s = 0; s < slots; s++) {
            words.addAll(List.of(s < n ? s : once(4) ? 255 : below(n), 1 + below(40)));
        }
        return words;
    }

    private void configs() throws ReflectiveOperationException {
        for (int p = 0; p < 7; p++) {
            feed(List.of(0, p));
            call("keep", p);
        }
        feed(List.of(1));
        call("keep", 8);
        while (calls < CALLS && wrong == 0) {
            List<Integer> words = config(8, 16, 40);
            for (int i = below(3); i > 0; i--) {
                int at = below(words.size());
                int old = words.get(at);
                words.set(at, once(3) ? EDGES[below(EDGES.length)] : old + below(9) - 4);
            }
            if (once(8)) {
                words = new ArrayList<>(words.subList(0, 1 + below(words.size())));
            }
            if (once(8)) {
                words.add(below(3));
            }
            feed(words);
            call("keep", 9);
            if (call("boot") > 0) {
                int p = below(8);
                call("told", 3);
                call("told", 4);
                call("flows", below(8), p);
                call("channel", about(from.length + 1), below(5));
                call("off");
            }
        }
    }

    // ---- boots

    /** An image that asks round and round; r7 grows each round, so that what is asked changes. */
    private List<Integer> image(int p) {
        List<Integer> words = new ArrayList<>();
        int room = Math.max(4, sizes[p] - (once(3) ? 0 : 8));
        if (once(2)) {
            words.add(made(12, 1, 0, once(8) ? about(4 * sizes[p]) : 4 * below(sizes[p])));
            words.add(made(38, 0, 0, 1));
        }
        if (!once(4)) {
            addFirstTerms(words);
        }
        int loop = words.size();
        words.add(made(12, 7, 7, 1));
        while (words.size() < room - 8) {
            addBlock(words, p);
        }
        words.add(once(10) ? random.nextInt() : made(36, 0, 0, loop - words.size()));
        return words;
    }

    /** HANDLES 1 a SECRET, 2 a NUMBER, 3 PAIR, 4 PUBLIC, 5 SIGNED, 6 CLOSED, so that what is asked later often fits. */
    private void addFirstTerms(List<Integer> words) {
        words.addAll(List.of(made(38, 0, 0, 21), made(12, 1, 0, below(4)), made(38, 0, 0, 13)));
        words.addAll(List.of(made(12, 1, 0, 1), made(12, 2, 0, 2), made(38, 0, 0, 14)));
        words.addAll(List.of(made(12, 1, 0, 1), made(38, 0, 0, 17)));
        words.addAll(List.of(made(12, 1, 0, 1), made(12, 2, 0, 1 + below(4)), made(38, 0, 0, 18)));
        words.addAll(List.of(made(12, 1, 0, 1), made(12, 3, 0, 1 + below(5)), made(38, 0, 0, 19)));
    }

    private void addBlock(List<Integer> words, int p) {
        int size = sizes[p];
        int kind = below(16);
        if (kind == 0) {
            words.add(made(1 + below(21), below(16), below(16), random.nextInt()));
        } else if (kind == 1) {
            words.add(made(22 + below(8), below(16), once(3) ? below(16) : 0, once(4) ? about(4 * size) : 4 * below(size)));
        } else if (kind == 2) {
            words.add(made(30 + below(8), below(16), below(16), below(7) - 1));
        } else if (kind == 3 && once(8)) {
            words.add(once(3) ? random.nextInt() : made(39, 0, 0, 0));
        } else {
            addAsk(words, p);
        }
    }

    private void addAsk(List<Integer> words, int p) {
        int number = one(0, 1, 2, 3, 4, 5, 5, 6, 7, 8, 7, 8, 9, 9, 10, 10, 11, 12, 12, 13, 13, 14, 14, 14, 15, 16, 17, 17, 18, 18, 18, 19, 19, 19, 20,
            21, 22, 23, 24, 24, 25, 25, 26, 26, 27, 27, 28, 28, 29, 30, 30, 31, 32, 32, 32, 32, 33, 33, 33, 34, 34);
        if (number == 0 && !once(3) || number == 1 && !once(4)) {
            number = 13;
        }
        words.add(firstOperand(number, p));
        boolean address = number == 7 || number == 8;
        if (address && !once(6)) {
            words.add(made(12, 2, 0, once(8) ? below(4 * sizes[p]) : 4 * below(sizes[p])));
        } else if (!once(4)) {
            words.add(number == 27 ? made(12, 2, 0, 5) : number == 28 ? made(12, 2, 0, 6) : operand(2));
        }
        if (number == 19) {
            words.add(operand(3));
        }
        words.add(made(38, 0, 0, once(60) ? below(64) : number));
        if (once(3)) {
            words.add(made(38, 0, 0, once(3) ? 11 : 6));
        } else if (once(3)) {
            words.add(made(12, 4 + below(3), 1, 0));
        }
    }

    private int firstOperand(int number, int p) {
        if (once(8)) {
            return operand(1);
        }
        if (number == 7 || number == 9) {
            return made(12, 1, 0, channelOf(from, p));
        }
        if (number == 8 || number == 10) {
            return made(12, 1, 0, channelOf(to, p));
        }
        if (number >= 32) {
            return made(12, 1, 0, below(areas[p] + (once(4) ? 1 : 0) + (areas[p] == 0 ? 1 : 0)));
        }
        int fits = number == 24 || number == 25 ? 3 : number == 26 ? 5 : number == 27 ? 4 : number == 28 ? 1 : 0;
        return fits > 0 && !once(3) ? made(12, 1, 0, fits) : operand(1);
    }

    private int channelOf(int[] ends, int p) {
        for (int i = 0; i < 8 && ends.length > 0; i++) {
            int c = below(ends.length);
            if (ends[c] == p) {
                return c;
            }
        }
        return below(4);
    }

    private int operand(int r) {
        switch (below(6)) {
            case 0:
                return made(13, r, 7, one(1, 3, 7, 15, 31, 127));
            case 1:
                return made(12, r, 4 + below(3), 0);
            case 2:
                return made(12, r, 7, below(3) - 1);
            default:
                return made(12, r, 0, below(once(3) ? 12 : 6));
        }
    }

    private void prepare() throws ReflectiveOperationException {
        List<Integer> config = config(4, 40, 60);
        feed(config);
        call("keep", 9);
        for (int p = 0; p < sizes.length; p++) {
            feed(image(p));
            call("keep", p);
        }
        feed(List.of(below(3), 7));
        call("keep", 8);
        for (int i = 0; i < 6; i++) {
            call("make", one(0, 2, 3, 3, 5, 7, 8, 9), 1 + below(5), 1 + below(5), 1 + below(5));
        }
        call("boot");
    }

    private void boots() throws ReflectiveOperationException {
        prepare();
        while (calls < CALLS - 60 && wrong == 0) {
            int plan = below(100);
            if (plan < 30) {
                act();
            } else if (plan < 60) {
                tell();
            } else {
                look();
            }
            if (plan == 99 && calls < 380) {
                renew();
            }
        }
        while (calls < CALLS && wrong == 0) {
            look();
        }
    }

    /** Another image, at times, for boots to come. */
    private void renew() throws ReflectiveOperationException {
        int p = below(sizes.length);
        feed(image(p));
        call("keep", once(9) ? 8 : p);
    }

    private int partition() {
        return about(sizes.length);
    }

    private void act() throws ReflectiveOperationException {
        switch (below(10)) {
            case 0:
                call("input", partition(), random.nextInt());
                break;
            case 1:
            case 2:
                call("inputTerm", partition(), 1 + about(12));
                break;
            case 3:
                call("cut", about(6));
                break;
            case 4:
                if (once(3)) {
                    call("off");
                }
                break;
            case 5:
                call("boot");
                break;
            default:
                call("run", once(6) ? about(2001) : 1 + below(200));
        }
    }

    private int outsideHandle() throws ReflectiveOperationException {
        return 1 + about(Math.max(1, call("told", 6)));
    }

    private void tell() throws ReflectiveOperationException {
        int h = outsideHandle();
        switch (below(9)) {
            case 0:
                call("output", partition(), about(20), about(2));
                break;
            case 1:
                call("output", partition(), below(20), 1);
                break;
            case 2:
                call("block", about(14), about(2));
                break;
            case 3:
                call("block", below(14), 1);
                break;
            case 4:
                call("put", about(14), about(4), once(3) ? 0 : h);
                break;
            case 5:
                call("measure", partition());
                break;
            case 6:
                call("take", h, about(5), outsideHandle());
                break;
            default:
                call("make", about(10), h, outsideHandle(), 1 + about(9));
        }
    }

    private void look() throws ReflectiveOperationException {
        int p = once(4) ? -1 : partition();
        int h = p == -1 ? outsideHandle() : 1 + about(Math.max(1, call("state", p, 6)));
        switch (below(17)) {
            case 0:
            case 1:
                call("state", p, about(11));
                break;
            case 2:
                call("register", p, about(16));
                break;
            case 3:
                call("memory", p, about(64));
                break;
            case 4:
                call("channel", about(Math.max(1, from.length)), about(10));
                break;
            case 5:
                call("kind", h);
                break;
            case 6:
                call("number", h);
                break;
            case 7:
            case 8:
                call("knows", p, h);
                break;
            case 9:
            case 10:
            case 11:
                call("far", p, h);
                break;
            case 12:
                call("same", p, h, once(2) ? -1 : partition(), 1 + below(12));
                break;
            case 13:
                call("flows", p, partition());
                break;
            case 14:
                call("purge", partition());
                break;
            case 15:
                call("output", p, about(30), about(2));
                break;
            default:
                call("told", about(9));
        }
    }
}
