import java.io.IOException;
import java.lang.reflect.Method;
import java.nio.file.Files;
import java.nio.file.Path;
import java.util.regex.Matcher;
import java.util.regex.Pattern;

/** The calls that README.md shows answer what it says. Runs in the project's folder. */
public final class ReadmeTest {
    private static final Pattern CALL = Pattern.compile("house\\.(\\w+)\\((.*)\\); *// (-?\\d+)\\b.*");

    public static void main(String[] args) throws IOException, ReflectiveOperationException {
        String text = Files.readString(Path.of("README.md"));
        PartHouse house = new PartHouse();
        int shown = 0;
        for (String line : text.split("\n")) {
            Matcher call = CALL.matcher(line);
            if (call.matches()) {
                shown++;
                Check.due(line, answer(house, call.group(1), call.group(2)), Integer.parseInt(call.group(3)));
            } else {
                Check.due("a call without its answer: " + line, line.startsWith("house.") ? 1 : 0, 0);
            }
        }
        Check.due("calls that are shown", shown > 0 ? 1 : 0, 1);
        everyCall(text);
        Check.end("ReadmeTest");
    }

    private static int answer(PartHouse house, String name, String arguments) throws ReflectiveOperationException {
        for (Method m : PartHouse.class.getDeclaredMethods()) {
            if (m.getName().equals(name)) {
                String[] parts = arguments.isEmpty() ? new String[0] : arguments.split(", ");
                Object[] values = new Object[parts.length];
                for (int i = 0; i < parts.length; i++) {
                    long value = Long.decode(parts[i].replace("L", ""));
                    boolean wide = m.getParameterTypes()[i] == long.class;
                    values[i] = wide ? (Object) value : (Object) (int) value;
                }
                return (Integer) m.invoke(house, values);
            }
        }
        return Integer.MIN_VALUE;
    }

    /** README.md names each call of the face. */
    private static void everyCall(String text) {
        for (Method m : PartHouse.class.getDeclaredMethods()) {
            if ((m.getModifiers() & java.lang.reflect.Modifier.PUBLIC) != 0) {
                Check.due("README.md names " + m.getName(), text.contains("`" + m.getName() + "`") ? 1 : 0, 1);
            }
        }
    }
}
