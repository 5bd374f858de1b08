import java.lang.reflect.Constructor;
import java.lang.reflect.Field;
import java.lang.reflect.Method;
import java.lang.reflect.Modifier;
import java.nio.file.Files;
import java.nio.file.Path;
import java.util.ArrayList;
import java.util.List;
import java.util.Set;
import java.util.TreeSet;
import java.util.regex.Matcher;
import java.util.regex.Pattern;

/** The public face, promise 1 (a new object), and the words that LANGUAGE.md rules out. */
public final class FaceTest {
    private static final Due due = new Due();

    private static final String FACE = "NONE DebateHouse/0 feed/5 end/1 rules/0 school/2 act/5 ruling/1 passed/1 state/1 "
        + "pending/2 clause/2 place/1 speeches/1 waits/1 overturned/1 beside/2 score/4 mean/1 award/1 told/1";

    public static void main(String[] args) throws Exception {
        face();
        newObject();
        shape();
        language();
        due.finish();
    }

    private static void face() {
        Set<String> got = new TreeSet<>();
        for (Field field : DebateHouse.class.getDeclaredFields()) {
            if (!Modifier.isPrivate(field.getModifiers())) {
                got.add(field.getName());
            }
        }
        for (Method method : DebateHouse.class.getDeclaredMethods()) {
            if (!Modifier.isPrivate(method.getModifiers()) && !method.isSynthetic()) {
                got.add(method.getName() + "/" + method.getParameterCount());
            }
        }
        for (Constructor<?> made : DebateHouse.class.getDeclaredConstructors()) {
            got.add("DebateHouse/" + made.getParameterCount());
        }
        due.is("face " + got, got.equals(new TreeSet<>(Set.of(FACE.split(" ")))), true);
        due.is("public final", DebateHouse.class.getModifiers(), Modifier.PUBLIC | Modifier.FINAL);
        due.is("NONE", DebateHouse.NONE, -1);
    }

    private static void newObject() {
        DebateHouse house = new DebateHouse();
        int[] states = {0, 0, -1, 0, 60, 0, 0, 0, -1, 0, 0};
        for (int what = 0; what < states.length; what++) {
            due.is("state(" + what + ")", house.state(what), states[what]);
        }
        due.is("state(11)", house.state(11), -1);
        due.is("state(-1)", house.state(-1), -1);
        for (int kind = 0; kind < 8; kind++) {
            due.is("told(" + kind + ")", house.told(kind), 0);
            due.is("told(" + (20 + kind) + ")", house.told(20 + kind), -1);
        }
        due.is("told(10)", house.told(10), 60);
        due.is("told(11)", house.told(11), 0);
        due.is("told(12)", house.told(12), 0);
        due.is("told(13)", house.told(13), 1);
        due.is("told(30)", house.told(30), 0);
        due.is("waits(0)", house.waits(0), -1);
        due.is("ruling(0)", house.ruling(0), -1);
        due.is("speeches(23)", house.speeches(23), 0);
        due.is("award(0)", house.award(0), -1);
        house.score(0, 0, 3, 50);
        due.is("mean(3) by a judge of school 0", house.mean(3), -1);
        due.is("leave of one who never came", house.act(1, 0, 0, 0, 0), 2);
    }

    /** Rules 1, 2 and 11 of LANGUAGE.md, as far as the compiled classes tell. */
    private static void shape() {
        Set<String> publicNames = new TreeSet<>();
        for (Method method : DebateHouse.class.getDeclaredMethods()) {
            if (Modifier.isPublic(method.getModifiers())) {
                publicNames.add(method.getName());
            }
        }
        List<Class<?>> classes = new ArrayList<>(List.of(DebateHouse.class.getDeclaredClasses()));
        classes.add(DebateHouse.class);
        due.is("at most twelve classes: " + classes.size(), classes.size() <= 12, true);
        for (Class<?> one : classes) {
            due.is(one + " is static", one == DebateHouse.class || Modifier.isStatic(one.getModifiers()), true);
            int fields = 0;
            for (Field field : one.getDeclaredFields()) {
                boolean isStatic = Modifier.isStatic(field.getModifiers());
                due.is(field + " is final", !isStatic || Modifier.isFinal(field.getModifiers()), true);
                fields += isStatic ? 0 : 1;
            }
            due.is("at most twenty fields in " + one + ": " + fields, fields <= 20, true);
            for (Method method : one.getDeclaredMethods()) {
                due.is("at most seven parameters of " + method, method.getParameterCount() <= 7, true);
                boolean isPrivate = Modifier.isPrivate(method.getModifiers());
                due.is("a public one's name: " + method, isPrivate && publicNames.contains(method.getName()), false);
            }
        }
    }

    private static void language() throws Exception {
        String source = Files.readString(Path.of("src/main/java/DebateHouse.java"));
        String code = source.replaceAll("(?s)/\\*.*?\\*/", "").replaceAll("//[^\n]*", "").replaceAll("\"[^\"]*\"", "\"\"");
        String banned = "\\b(throw|throws|try|catch|synchronized|assert|package|import|double|float|protected)\\b"
            + "|->|::|\"\" *\\+|\\+ *\"\"";
        Matcher found = Pattern.compile(banned).matcher(code);
        if (found.find()) {
            due.is("in the code: " + found.group(), 1, 0);
        }
    }
}
