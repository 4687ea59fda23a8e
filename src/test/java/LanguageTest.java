import java.io.IOException;
import java.lang.reflect.Field;
import java.lang.reflect.Method;
import java.lang.reflect.Modifier;
import java.nio.file.Files;
import java.nio.file.Path;
import java.util.Set;
import java.util.TreeSet;
import java.util.regex.Matcher;
import java.util.regex.Pattern;

/** The face of the class, and those rules of the language that can be seen in its text. Runs in the project's folder. */
public final class LanguageTest {
    private static final String[] FACE = {"int type(long,int)", "int assemble()", "int place()", "int feed(int,int,int,int)",
        "int show(int)", "int shown(int)", "int drop(int)", "int word(int)", "int keep(int)", "int safe(int,int)", "int boot()",
        "int off()", "int cut(int)", "int run(int)", "int input(int,int)", "int inputTerm(int,int)", "int output(int,int,int)",
        "int state(int,int)", "int register(int,int)", "int memory(int,int)", "int channel(int,int)", "int block(int,int)",
        "int put(int,int,int)", "int make(int,int,int,int)", "int take(int,int,int)", "int kind(int)", "int number(int)",
        "int measure(int)", "int knows(int,int)", "int far(int,int)", "int same(int,int,int,int)", "int flows(int,int)",
        "int purge(int)", "int told(int)"};
    private static final int MAX_LINES = 60;

    public static void main(String[] args) throws IOException {
        face();
        members();
        String text = Files.readString(Path.of("src/main/java/PartHouse.java"));
        words(text);
        methods(text);
        Check.end("LanguageTest");
    }

    private static void face() {
        Set<String> due = new TreeSet<>(Set.of(FACE));
        Set<String> found = new TreeSet<>();
        Set<String> names = new TreeSet<>();
        for (Method m : PartHouse.class.getDeclaredMethods()) {
            if (!Modifier.isPrivate(m.getModifiers())) {
                found.add(signature(m));
                names.add(m.getName());
            }
        }
        Check.due("the face", found.toString(), due.toString());
        for (Class<?> inside : PartHouse.class.getDeclaredClasses()) {
            for (Method m : inside.getDeclaredMethods()) {
                Check.due("a name of the face inside: " + m, names.contains(m.getName()) ? 1 : 0, 0);
            }
        }
        for (Method m : PartHouse.class.getDeclaredMethods()) {
            Check.due("a private one of that name: " + m, Modifier.isPrivate(m.getModifiers()) && names.contains(m.getName()) ? 1 : 0, 0);
        }
        int is = PartHouse.class.getModifiers();
        Check.due("public and final", Modifier.isPublic(is) && Modifier.isFinal(is) ? 1 : 0, 1);
        Check.due("constructors", PartHouse.class.getDeclaredConstructors().length, 1);
    }

    private static String signature(Method m) {
        StringBuilder text = new StringBuilder(m.getReturnType() + " " + m.getName() + "(");
        for (Class<?> type : m.getParameterTypes()) {
            text.append(text.charAt(text.length() - 1) == '(' ? "" : ",").append(type);
        }
        return text + ")";
    }

    private static void members() {
        for (Field f : PartHouse.class.getDeclaredFields()) {
            Check.due("private: " + f, Modifier.isPrivate(f.getModifiers()) ? 1 : 0, 1);
        }
        Class<?>[] inside = PartHouse.class.getDeclaredClasses();
        Check.due("classes, at most twelve with the outer one", inside.length <= 11 ? 1 : 0, 1);
        for (Class<?> c : inside) {
            Check.due("static: " + c, Modifier.isStatic(c.getModifiers()) && !Modifier.isPublic(c.getModifiers()) ? 1 : 0, 1);
            int fields = 0;
            for (Field f : c.getDeclaredFields()) {
                boolean fixed = Modifier.isStatic(f.getModifiers());
                fields += fixed ? 0 : 1;
                Check.due("static fields are final: " + f, !fixed || Modifier.isFinal(f.getModifiers()) ? 1 : 0, 1);
            }
            Check.due("fields of " + c, fields <= 20 ? 1 : 0, 1);
            for (Method m : c.getDeclaredMethods()) {
                Check.due("parameters of " + m, m.getParameterCount() <= 7 ? 1 : 0, 1);
            }
        }
    }

    private static String withoutRemarks(String text) {
        return text.replaceAll("(?s)/\\*.*?\\*/", "").replaceAll("//[^\n]*", "").replaceAll("\"[^\"\n]*\"", "\"\"");
    }

    private static void words(String text) {
        String code = withoutRemarks(text);
        String[] never = {"throw", "throws", "try", "catch", "finally", "synchronized", "assert", "native", "protected",
            "volatile", "transient", "var", "yield", "extends", "hashCode", "toString", "Object", "Exact"};
        for (String word : never) {
            Check.due("the word " + word, Pattern.compile("\\b" + word + "\\b").matcher(code).find() ? 1 : 0, 0);
        }
        for (String sign : new String[] {"->", "::", "\"\" +", "+ \"\"", "@"}) {
            Check.due("the sign " + sign, code.contains(sign) ? 1 : 0, 0);
        }
        Matcher imports = Pattern.compile("import ([^;]*);").matcher(code);
        while (imports.find()) {
            Check.due("import " + imports.group(1), imports.group(1).equals("java.util.Arrays") ? 1 : 0, 1);
        }
        Matcher calls = Pattern.compile("\\b(Arrays|System|Math|Integer|Long|String)\\.(\\w+)").matcher(code);
        Set<String> may = Set.of("Arrays.fill", "Arrays.copyOf", "System.arraycopy", "Math.min", "Math.max",
            "Integer.MIN_VALUE", "Integer.MAX_VALUE");
        while (calls.find()) {
            Check.due("use of " + calls.group(), may.contains(calls.group()) ? 1 : 0, 1);
        }
    }

    private static void methods(String text) {
        String[] lines = text.split("\n");
        int from = -1;
        String end = "";
        for (int i = 0; i < lines.length; i++) {
            if (from < 0 && lines[i].matches("(    |        )[a-z].*\\) \\{")) {
                from = i;
                end = lines[i].substring(0, lines[i].length() - lines[i].stripLeading().length()) + "}";
            } else if (from >= 0 && lines[i].equals(end)) {
                Check.due("lines of" + lines[from], i - from + 1 <= MAX_LINES ? 1 : 0, 1);
                from = -1;
            }
        }
    }
}
