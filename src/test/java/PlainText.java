import java.util.ArrayList;
import java.util.LinkedHashMap;
import java.util.List;
import java.util.Map;
import java.util.regex.Matcher;
import java.util.regex.Pattern;

/** Section 2 of the document once more, in its plainest form, for ModelTest. */
final class PlainText {
    /** The statements in the order of their ops, each with its operands: R a register, L a label or N, others an N. */
    private static final String[] STATEMENTS = {"",
        "add RRR", "sub RRR", "and RRR", "or RRR", "xor RRR", "shl RRR", "shr RRR", "sar RRR", "less RRR", "below RRR", "mul RRR",
        "addi RRN", "andi RRN", "ori RRN", "xori RRN", "shli RRN", "shri RRN", "sari RRN", "lessi RRN", "belowi RRN",
        "high RH", "ldw RRN", "ldh RRN", "ldhu RRN", "ldo RRN", "ldou RRN", "stw RRN", "sth RRN", "sto RRN",
        "beq RRL", "bne RRL", "blt RRL", "bge RRL", "bltu RRL", "bgeu RRL", "jump RL", "jumpr RRN", "ask A", "back ",
        "word W", "room O"};
    private static final Pattern PASSED_OVER = Pattern.compile("(?:[ \t\r]|;[^\n]*)*");
    private static final Pattern TOKEN = Pattern.compile("([a-z][a-z0-9]*)|0x([0-9a-f]+)|([0-9]+)|[,:\n-]");
    private static final String REGISTER = "r([0-9]|1[0-5])";

    /** The first fault of a text. */
    static final class Fault extends Exception {
        private static final long serialVersionUID = 1;
        final int number;
        final int place;

        Fault(int number, int place) {
            this.number = number;
            this.place = place;
        }
    }

    /** kind: n a NAME, f a NUMBER, the sign itself, e the text's end, ? none. */
    private record Token(char kind, String text, long value, int place) {
    }

    private record Use(int word, String label, int place, boolean whole) {
    }

    private final List<Token> tokens = new ArrayList<>();
    private final Map<String, Integer> labels = new LinkedHashMap<>();
    private final List<Use> uses = new ArrayList<>();
    private final List<Integer> words = new ArrayList<>();
    private int at;

    private PlainText() {
    }

    static List<Integer> assembled(String text) throws Fault {
        PlainText made = new PlainText();
        made.split(text);
        while (made.token().kind != 'e') {
            made.line();
        }
        for (Use use : made.uses) {
            made.settle(use);
        }
        return made.words;
    }

    /** The text that is tried is the one that the fields tell; it must make the word. */
    static String shown(int w) {
        int op = w >>> 26;
        if (op >= 1 && op <= 39) {
            String text = tried(w, op);
            try {
                if (assembled(text).equals(List.of(w))) {
                    return text;
                }
            } catch (Fault fault) {
                return "word " + w;
            }
        }
        return "word " + w;
    }

    private static String tried(int w, int op) {
        String[] statement = STATEMENTS[op].split(" ", 2);
        List<String> operands = new ArrayList<>();
        int register = 22;
        for (char operand : statement[1].toCharArray()) {
            if (operand == 'R') {
                operands.add("r" + (w >> register & 15));
                register -= 4;
            } else {
                int m = w & 0x3FFFF;
                operands.add("" + (operand == 'H' || m < 0x20000 ? m : m - 0x40000));
            }
        }
        return statement[0] + (operands.isEmpty() ? "" : " " + String.join(", ", operands));
    }

    private void split(String text) {
        int place = 0;
        while (true) {
            Matcher passed = PASSED_OVER.matcher(text).region(place, text.length());
            place = passed.lookingAt() ? passed.end() : place;
            if (place == text.length()) {
                tokens.add(new Token('e', "", 0, place));
                return;
            }
            Matcher found = TOKEN.matcher(text).region(place, text.length());
            if (!found.lookingAt() || isTooLong(found)) {
                tokens.add(new Token('?', "", 0, place));
                return;
            }
            if (found.group(1) != null) {
                tokens.add(new Token('n', found.group(), 0, place));
            } else if (found.group(2) != null) {
                tokens.add(new Token('f', "", Long.parseLong(found.group(2), 16), place));
            } else if (found.group(3) != null) {
                tokens.add(new Token('f', "", Long.parseLong(found.group(3)), place));
            } else {
                tokens.add(new Token(found.group().charAt(0), "", 0, place));
            }
            place = found.end();
        }
    }

    private static boolean isTooLong(Matcher found) {
        return isLonger(found.group(1), 8) || isLonger(found.group(2), 8) || isLonger(found.group(3), 10);
    }

    private static boolean isLonger(String text, int most) {
        return text != null && text.length() > most;
    }

    private Token token() {
        return tokens.get(at);
    }

    /** The token must be of a kind; it is passed. */
    private Token want(char kind) throws Fault {
        Token token = token();
        if (token.kind == '?') {
            throw new Fault(1, token.place);
        }
        if (token.kind != kind) {
            throw new Fault(2, token.place);
        }
        at++;
        return token;
    }

    private void line() throws Fault {
        if (token().kind == 'n' && at + 1 < tokens.size() && tokens.get(at + 1).kind == ':') {
            Token name = want('n');
            if (labels.containsKey(name.text)) {
                throw new Fault(4, name.place);
            }
            if (labels.size() == 200) {
                throw new Fault(6, name.place);
            }
            labels.put(name.text, words.size());
            want(':');
        }
        if (token().kind == 'n') {
            statement(want('n'));
        }
        if (token().kind != 'e') {
            want('\n');
        }
    }

    private void statement(Token name) throws Fault {
        int op = opOf(name.text);
        if (op == 0) {
            throw new Fault(3, name.place);
        }
        if (op == 41) {
            long n = number(1, 2048);
            if (words.size() + n > 2048) {
                throw new Fault(6, name.place);
            }
            for (int i = 0; i < n; i++) {
                words.add(0);
            }
            return;
        }
        if (words.size() == 2048) {
            throw new Fault(6, name.place);
        }
        long made = op == 40 ? 0 : (long) op << 26;
        String operands = STATEMENTS[op].split(" ", 2)[1];
        for (int i = 0; i < operands.length(); i++) {
            if (i > 0) {
                want(',');
            }
            made += operand(operands.charAt(i), i);
        }
        words.add((int) made);
    }

    private static int opOf(String name) {
        for (int op = 1; op <= 41; op++) {
            if (STATEMENTS[op].split(" ", 2)[0].equals(name)) {
                return op;
            }
        }
        return 0;
    }

    private long operand(char kind, int i) throws Fault {
        switch (kind) {
            case 'R':
                Token name = want('n');
                if (!name.text.matches(REGISTER)) {
                    throw new Fault(3, name.place);
                }
                return Long.parseLong(name.text.substring(1)) << 22 - 4 * i;
            case 'H':
                return number(0, 262143);
            case 'A':
                return number(0, 131071);
            case 'W':
                return usesLabel(true) ? 0 : number(-2147483648L, 4294967295L);
            case 'L':
                return usesLabel(false) ? 0 : number(-131072, 131071) & 0x3FFFF;
            default:
                return number(-131072, 131071) & 0x3FFFF;
        }
    }

    private boolean usesLabel(boolean whole) throws Fault {
        if (token().kind != 'n') {
            return false;
        }
        Token name = want('n');
        uses.add(new Use(words.size(), name.text, name.place, whole));
        return true;
    }

    private long number(long least, long most) throws Fault {
        boolean minus = token().kind == '-';
        if (minus) {
            want('-');
        }
        Token figures = want('f');
        long value = minus ? -figures.value : figures.value;
        if (value < least || value > most) {
            throw new Fault(5, figures.place);
        }
        return value;
    }

    private void settle(Use use) throws Fault {
        Integer told = labels.get(use.label);
        if (told == null) {
            throw new Fault(7, use.place);
        }
        int value = use.whole ? 4 * told : told - use.word & 0x3FFFF;
        words.set(use.word, words.get(use.word) + value);
    }
}
