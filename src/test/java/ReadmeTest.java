import java.lang.reflect.Method;
import java.lang.reflect.Modifier;
import java.nio.file.Files;
import java.nio.file.Path;
import java.util.List;
import java.util.Set;
import java.util.TreeSet;
import java.util.regex.Matcher;
import java.util.regex.Pattern;

/** The calls of README.md answer what stands behind them there, and every call of the face is among them. */
public final class ReadmeTest {
    private static final Due due = new Due();
    private static final Pattern CALL = Pattern.compile("house\\.(\\w+)\\(([^)]*)\\); *// (-?\\d+|NONE|true|false)\\b.*");

    public static void main(String[] args) throws Exception {
        DebateHouse house = new DebateHouse();
        Set<String> made = new TreeSet<>();
        for (String line : Files.readAllLines(Path.of("README.md"))) {
            if (!line.startsWith("house.")) {
                continue;
            }
            Matcher call = CALL.matcher(line);
            due.is("a call with its answer: " + line, call.matches(), true);
            if (call.matches()) {
                made.add(call.group(1));
                due.is(line, answer(house, call.group(1), call.group(2)), valueOf(call.group(3)));
            }
        }
        due.is("calls that README.md makes: " + made, made.equals(face()), true);
        due.finish();
    }

    private static Set<String> face() {
        Set<String> names = new TreeSet<>();
        for (Method method : DebateHouse.class.getDeclaredMethods()) {
            if (Modifier.isPublic(method.getModifiers())) {
                names.add(method.getName());
            }
        }
        return names;
    }

    private static int answer(DebateHouse house, String name, String numbers) throws Exception {
        List<String> parts = numbers.isEmpty() ? List.of() : List.of(numbers.split(","));
        Class<?>[] types = new Class<?>[parts.size()];
        Object[] values = new Object[parts.size()];
        for (int i = 0; i < types.length; i++) {
            types[i] = int.class;
            values[i] = sumOf(parts.get(i));
        }
        Object got = DebateHouse.class.getMethod(name, types).invoke(house, values);
        return valueOf(String.valueOf(got));
    }

    private static int sumOf(String number) {
        int sum = 0;
        for (String part : number.split("\\+")) {
            sum += Long.decode(part.trim()).intValue();
        }
        return sum;
    }

    private static int valueOf(String word) {
        switch (word) {
            case "NONE":
                return DebateHouse.NONE;
            case "true":
                return 1;
            case "false":
                return 0;
            default:
                return Integer.parseInt(word);
        }
    }
}
