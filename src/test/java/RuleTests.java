import java.lang.reflect.Constructor;
import java.lang.reflect.Executable;
import java.lang.reflect.Field;
import java.lang.reflect.Method;
import java.lang.reflect.Modifier;
import java.nio.file.Files;
import java.nio.file.Path;
import java.util.Arrays;
import java.util.List;
import java.util.Set;
import java.util.TreeSet;
import java.util.function.Supplier;
import java.util.regex.Matcher;
import java.util.regex.Pattern;

/** The public face, and the rules of LANGUAGE.md that can be looked up in the class and its source. */
public final class RuleTests {
    private static final String[] FACE = {
        "int shooter(int,int)", "int of(int,int)", "int last(int,int)", "int row(int,int,int)", "int feed(int)",
        "int ground()", "int told(int)", "int chance(int,int,int)", "int shoot(int,int)", "int anew()",
        "int best(int,int)", "int mix(int,int)", "int line(int)", "long likely(int,int)", "int order(int)",
        "long win(int,int,int)", "int worth(int)", "int stop(int)", "int forget(int,int)", "int caught(int,int)",
        "int see(int)", "int who()", "long odds(int,int)", "long mean(int)", "int book(int,int)", "int looked()",
        "int judge(int,int)", "int image()", "int undo()", "int act(int,int,int)", "int trace(int)",
        "int taken(int,int)", "int count(int)", "int tape(int,int,int)", "int item(int,int,long)",
        "long read(int,int)", "int shift(int,int,int,int,int)",
    };
    private static final Path SOURCE = Path.of("src/main/java/FootKeeper.java");
    /** The line a method begins with: of the class itself or of one inside it. */
    private static final Pattern HEAD =
            Pattern.compile("^( {4}| {8})(?! |if |for |while |switch |do |\\})[^=;]*\\)\\s*\\{$");
    private static int wrong;

    private RuleTests() {
    }

    private static void must(boolean so, String what) {
        if (!so) {
            wrong++;
            System.out.println("not so: " + what);
        }
    }

    private static String told(Method m) {
        StringBuilder b = new StringBuilder(m.getReturnType() + " " + m.getName() + "(");
        for (Class<?> type : m.getParameterTypes()) {
            b.append(b.charAt(b.length() - 1) == '(' ? "" : ",").append(type);
        }
        return b.append(")").toString();
    }

    private static void face() throws Exception {
        Class<?> c = FootKeeper.class;
        must(Modifier.isPublic(c.getModifiers()) && Modifier.isFinal(c.getModifiers()), "public and final");
        Set<String> methods = new TreeSet<>();
        Set<String> names = new TreeSet<>();
        for (Method m : c.getDeclaredMethods()) {
            if (Modifier.isPublic(m.getModifiers())) {
                must(!Modifier.isStatic(m.getModifiers()), "not static: " + m);
                methods.add(told(m));
                names.add(m.getName());
            }
        }
        must(methods.equals(new TreeSet<>(Arrays.asList(FACE))), "the face's methods: " + methods);
        for (Method m : c.getDeclaredMethods()) {
            boolean open = Modifier.isPublic(m.getModifiers()) || m.isSynthetic();
            must(open || Modifier.isPrivate(m.getModifiers()), "private: " + m);
            must(open || !names.contains(m.getName()), "a name of its own: " + m);
        }
        Constructor<?>[] constructors = c.getDeclaredConstructors();
        must(constructors.length == 1 && Modifier.isPublic(constructors[0].getModifiers())
                && constructors[0].getParameterCount() == 0, "one public constructor");
        Set<String> constants = new TreeSet<>();
        for (Field f : c.getDeclaredFields()) {
            if (Modifier.isPublic(f.getModifiers())) {
                must(Modifier.isStatic(f.getModifiers()) && Modifier.isFinal(f.getModifiers()), "a constant: " + f);
                constants.add(f.getType() + " " + f.getName() + " " + f.get(null));
            } else {
                must(Modifier.isPrivate(f.getModifiers()), "private: " + f);
            }
        }
        must(constants.equals(Set.of("int NONE -1", "int BAD -2", "int STATE -3", "int FULL -4",
                "long NO " + Long.MIN_VALUE)), "the face's constants: " + constants);
    }

    private static void shape(Class<?> c) {
        int fields = 0;
        for (Field f : c.getDeclaredFields()) {
            boolean isStatic = Modifier.isStatic(f.getModifiers());
            must(!isStatic || Modifier.isFinal(f.getModifiers()), "no static state: " + f);
            fields += isStatic ? 0 : 1;
        }
        must(fields <= 20, "twenty fields at most: " + c);
        for (Executable e : c.getDeclaredMethods()) {
            must(e.getParameterCount() <= 7, "seven parameters at most: " + e);
        }
        must(c == FootKeeper.class || Modifier.isStatic(c.getModifiers()), "static: " + c);
        must(!Modifier.isPublic(c.getModifiers()) || c == FootKeeper.class, "not public: " + c);
    }

    private static void shapes() {
        Class<?>[] inside = FootKeeper.class.getDeclaredClasses();
        must(inside.length + 1 <= 12, "twelve classes at most");
        shape(FootKeeper.class);
        for (Class<?> c : inside) {
            shape(c);
            must(c.getDeclaredClasses().length == 0, "no deeper class: " + c);
        }
    }

    private static String bare(String source) {
        return source.replaceAll("(?s)/\\*.*?\\*/", "").replaceAll("//[^\n]*", "")
                .replaceAll("\"[^\"\n]*\"", "\"\"").replaceAll("'[^'\n]+'", "' '");
    }

    private static void absent(String code, String pattern) {
        Matcher m = Pattern.compile(pattern).matcher(code);
        if (m.find()) {
            must(false, "not in the source: " + m.group());
        }
    }

    private static void words(String source) {
        must(source.chars().allMatch(c -> c < 128), "signs below 128");
        String code = bare(source);
        absent(code, "\\b(throw|throws|try|catch|finally|synchronized|assert|protected|volatile|native|package)\\b");
        absent(code, "\\b(enum|record|yield|var|goto|transient|strictfp)\\b");
        absent(code, "->|::|@|\\.\\.\\.");
        absent(code, "\\b\\w+Exact\\b");
        absent(code, "\\b(hashCode|toString|equals|getClass|Object|Thread|Random|Exception)\\b");
        absent(code, "\\bSystem\\.(?!arraycopy\\b)");
        absent(code, "\\bMath\\.(?!(min|max|abs|floorMod|floorDiv)\\b)");
        absent(code, "\\bArrays\\.(?!(fill|copyOf|copyOfRange)\\b)");
        absent(code, "\\bLong\\.(?!MIN_VALUE\\b)|\\bInteger\\.");
        absent(code, "\\bimport (?!java\\.util\\.Arrays;)");
        absent(code, "\\b(static|private|final)\\s*\\{");
        absent(code, "\\bwhile\\s*\\(true\\)|for\\s*\\(;;\\)");
        absent(code, "\\b(float|double)\\b");
        absent(code, "\"\"\\s*\\+|\\+\\s*\"\"");
    }

    /** Rule 12 and the room that all calls share: but for a new shooter, only constructors make anything. */
    private static void making(String source) {
        Pattern maker = Pattern.compile("^ +(public )?[A-Z]\\w*\\(.*|.* newShooter\\(.*");
        String at = "";
        for (String line : bare(source).split("\n")) {
            at = HEAD.matcher(line).matches() ? line : at;
            boolean makes = Pattern.compile("\\bnew\\b|\\.(clone|toCharArray|substring|copyOf\\w*)\\(").matcher(line).find();
            must(!makes || maker.matcher(at).matches(), "made in a constructor: " + at + line);
        }
    }

    /** A method ends with the brace that stands as far in as its head. */
    private static void methods(String source) {
        String[] lines = source.split("\n");
        for (int i = 0; i < lines.length; i++) {
            Matcher m = HEAD.matcher(lines[i]);
            if (m.matches()) {
                int end = i;
                while (end < lines.length && !lines[end].equals(m.group(1) + "}")) {
                    end++;
                }
                must(end - i + 1 <= 60, "sixty lines at most: " + lines[i]);
                String name = lines[i].replaceAll("\\(.*", "").replaceAll(".* ", "");
                String body = String.join("\n", Arrays.copyOfRange(lines, i + 1, end));
                // Rule 8: a method that calls itself is private and static; others call one another
                boolean itself = Pattern.compile("(?<![.\\w])" + name + "\\(").matcher(body).find();
                must(!itself || lines[i].contains("private static"), "no method that calls itself: " + lines[i]);
            }
        }
    }

    /** What is called with, ahead of all: the ends of int and the edges of what the document tells. */
    private static final int[] FEW = {Integer.MIN_VALUE, -1, 0, 1, 3, 60, 61, Integer.MAX_VALUE};
    private static final int[] MANY = {Integer.MIN_VALUE, Integer.MIN_VALUE + 1, -1001, -14, -2, -1, 0, 1, 2, 3, 4, 5, 6, 7, 9,
        10, 12, 13, 20, 22, 23, 59, 60, 61, 99, 100, 101, 127, 128, Integer.MAX_VALUE - 1, Integer.MAX_VALUE};

    /** No call throws, whatever it is called with, on an empty, a common and a full object. */
    private static void neverThrows() {
        List<Supplier<FootKeeper>> made = List.of(FootKeeper::new, NothingChangesTests::some, HostTests::full);
        for (Method m : FootKeeper.class.getDeclaredMethods()) {
            if (Modifier.isPublic(m.getModifiers())) {
                for (Supplier<FootKeeper> how : made) {
                    callWithAll(m, how);
                }
            }
        }
    }

    private static void callWithAll(Method m, Supplier<FootKeeper> made) {
        int n = m.getParameterCount();
        int[] of = n < 3 ? MANY : FEW;
        int ways = 1;
        for (int i = 0; i < n; i++) {
            ways *= of.length;
        }
        FootKeeper x = made.get();
        for (int way = 0; way < ways; way++) {
            // an object lives for 512 calls, some of which went into making it
            x = way % 300 == 299 ? made.get() : x;
            Object[] with = new Object[n];
            for (int i = 0, rest = way; i < n; i++, rest /= of.length) {
                int v = of[rest % of.length];
                with[i] = m.getParameterTypes()[i] == long.class ? (Object) ((long) v << v) : (Object) v;
            }
            try {
                m.invoke(x, with);
            } catch (ReflectiveOperationException e) {
                must(false, "no call throws: " + m.getName() + Arrays.toString(with) + " " + e.getCause());
            }
        }
    }

    /** Two objects know nothing of one another. */
    private static void apart() {
        FootKeeper x = new FootKeeper();
        FootKeeper y = new FootKeeper();
        x.shooter(0, 0);
        x.feed('i');
        x.tape(0, 0, 1);
        must(y.count(0) == 0 && y.count(5) == 0 && y.read(0, 0) == FootKeeper.NO, "objects stand apart");
    }

    public static void main(String[] args) throws Exception {
        String source = Files.readString(SOURCE);
        face();
        shapes();
        words(source);
        methods(source);
        making(source);
        neverThrows();
        apart();
        System.out.println(wrong == 0 ? "the rules are kept" : wrong + " rules are not kept");
        if (wrong != 0) {
            System.exit(1);
        }
    }
}
