import java.lang.reflect.Method;
import java.lang.reflect.Modifier;
import java.nio.file.Files;
import java.nio.file.Path;
import java.util.ArrayList;
import java.util.List;
import java.util.Set;
import java.util.TreeSet;
import java.util.regex.Matcher;
import java.util.regex.Pattern;

/** Makes the calls that README.md tells, in their order, and holds each answer against the one told there. */
public final class ReadmeTests {
    private static final Pattern CALL = Pattern.compile("x\\.(\\w+)\\(([^)]*)\\);\\s*// (-?\\d+)(:.*)?");
    private static final Pattern GROUND = Pattern.compile("ground\\(x, \"([^\"]*)\"\\);\\s*// (-?\\d+)(:.*)?");
    private static int wrong;

    private ReadmeTests() {
    }

    private static void must(boolean so, String what) {
        if (!so) {
            wrong++;
            System.out.println("not so: " + what);
        }
    }

    private static Object argument(String told, Class<?> type) {
        int value = told.startsWith("'") ? told.charAt(1) : Integer.parseInt(told);
        return type == long.class ? (Object) (long) value : (Object) value;
    }

    private static long call(FootKeeper x, String name, String arguments) throws ReflectiveOperationException {
        String[] told = arguments.isEmpty() ? new String[0] : arguments.split(", ");
        for (Method m : FootKeeper.class.getDeclaredMethods()) {
            if (Modifier.isPublic(m.getModifiers()) && m.getName().equals(name) && m.getParameterCount() == told.length) {
                Object[] with = new Object[told.length];
                for (int i = 0; i < told.length; i++) {
                    with[i] = argument(told[i], m.getParameterTypes()[i]);
                }
                return ((Number) m.invoke(x, with)).longValue();
            }
        }
        throw new NoSuchMethodException(name);
    }

    /** The calls between the fences: all but the method that shows how a text comes in. */
    private static List<String> calls() throws Exception {
        List<String> calls = new ArrayList<>();
        for (String line : Files.readAllLines(Path.of("README.md"))) {
            if (line.startsWith("x.") || line.startsWith("ground(")) {
                calls.add(line);
            }
        }
        return calls;
    }

    public static void main(String[] args) throws Exception {
        FootKeeper x = new FootKeeper();
        Set<String> made = new TreeSet<>();
        for (String line : calls()) {
            Matcher call = CALL.matcher(line);
            Matcher ground = GROUND.matcher(line);
            if (call.matches()) {
                made.add(call.group(1));
                long got = call(x, call.group(1), call.group(2));
                must(got == Long.parseLong(call.group(3)), line + " but " + got);
            } else if (ground.matches()) {
                int got = Sheet.ground(x, ground.group(1));
                must(got == Integer.parseInt(ground.group(2)), line + " but " + got);
            } else {
                must(false, "a call and its answer: " + line);
            }
        }
        for (Method m : FootKeeper.class.getDeclaredMethods()) {
            must(!Modifier.isPublic(m.getModifiers()) || made.contains(m.getName()), "README.md tells of " + m.getName());
        }
        System.out.println(made.size() + " calls of README.md, " + wrong + " not as told");
        if (wrong != 0) {
            System.exit(1);
        }
    }
}
