import java.lang.reflect.Constructor;
import java.lang.reflect.Executable;
import java.lang.reflect.Field;
import java.lang.reflect.Method;
import java.lang.reflect.Modifier;
import java.nio.file.Files;
import java.nio.file.Path;
import java.util.Arrays;
import java.util.Set;
import java.util.TreeSet;
import java.util.regex.Matcher;
import java.util.regex.Pattern;

/** The public face, and the rules of LANGUAGE.md that can be looked up in the class and its source. */
public final class RuleTests {
    private static final String[] FACE = {
        "int shooter(int,int)", "int of(int,int)", "int last(int,int)", "int row(int,int,int)", "int feed(int)",
        "int ground()", "int told(int)", "int chance(int,int,int)", "int shoot(int,int)", "int anew()",
        "int best(int,int)", "int mix(int,int)", "int line(int)", "long likely(int,int)", "int order(int)",
        "long win(int,int,int)", "int worth(int)", "int stop(int)", "int forget(int,int)", "int caught(int,int)",
        "int see(int)", "int who()", "long odds(int,int)", "long mean(int)", "int book(int,int)", "int looked()",
        "int judge(int,int)", "int image()", "int undo()", "int act(int,int,int)", "int trace(int)",
        "int taken(int,int)", "int count(int)", "int tape(int,int,int)", "int item(int,int,long)",
        "long read(int,int)", "int shift(int,int,int,int,int)",
    };
    private static final Path SOURCE = Path.of("src/main/java/FootKeeper.java");
    private static int wrong;

    private RuleTests() {
    }

    private static void must(boolean so, String what) {
        if (!so) {
            wrong++;
            System.out.println("not so: " + what);
        }
    }

    private static String told(Method m) {
        StringBuilder b = new StringBuilder(m.getReturnType() + " " + m.getName() + "(");
        for (Class<?> type : m.getParameterTypes()) {
            b.append(b.charAt(b.length() - 1) == '(' ? "" : ",").append(type);
        }
        return b.append(")").toString();
    }

    private static void face() throws Exception {
        Class<?> c = FootKeeper.class;
        must(Modifier.isPublic(c.getModifiers()) && Modifier.isFinal(c.getModifiers()), "public and final");
        Set<String> methods = new TreeSet<>();
        Set<String> names = new TreeSet<>();
        for (Method m : c.getDeclaredMethods()) {
            if (Modifier.isPublic(m.getModifiers())) {
                must(!Modifier.isStatic(m.getModifiers()), "not static: " + m);
                methods.add(told(m));
                names.add(m.getName());
            }
        }
        must(methods.equals(new TreeSet<>(Arrays.asList(FACE))), "the face's methods: " + methods);
        for (Method m : c.getDeclaredMethods()) {
            boolean open = Modifier.isPublic(m.getModifiers()) || m.isSynthetic();
            must(open || Modifier.isPrivate(m.getModifiers()), "private: " + m);
            must(open || !names.contains(m.getName()), "a name of its own: " + m);
        }
        Constructor<?>[] constructors = c.getDeclaredConstructors();
        must(constructors.length == 1 && Modifier.isPublic(constructors[0].getModifiers())
                && constructors[0].getParameterCount() == 0, "one public constructor");
        Set<String> constants = new TreeSet<>();
        for (Field f : c.getDeclaredFields()) {
            if (Modifier.isPublic(f.getModifiers())) {
                must(Modifier.isStatic(f.getModifiers()) && Modifier.isFinal(f.getModifiers()), "a constant: " + f);
                constants.add(f.getType() + " " + f.getName() + " " + f.get(null));
            } else {
                must(Modifier.isPrivate(f.getModifiers()), "private: " + f);
            }
        }
        must(constants.equals(Set.of("int NONE -1", "int BAD -2", "int STATE -3", "int FULL -4",
                "long NO " + Long.MIN_VALUE)), "the face's constants: " + constants);
    }

    private static void shape(Class<?> c) {
        int fields = 0;
        for (Field f : c.getDeclaredFields()) {
            boolean isStatic = Modifier.isStatic(f.getModifiers());
            must(!isStatic || Modifier.isFinal(f.getModifiers()), "no static state: " + f);
            fields += isStatic ? 0 : 1;
        }
        must(fields <= 20, "twenty fields at most: " + c);
        for (Executable e : c.getDeclaredMethods()) {
            must(e.getParameterCount() <= 7, "seven parameters at most: " + e);
        }
        must(c == FootKeeper.class || Modifier.isStatic(c.getModifiers()), "static: " + c);
        must(!Modifier.isPublic(c.getModifiers()) || c == FootKeeper.class, "not public: " + c);
    }

    private static void shapes() {
        Class<?>[] inside = FootKeeper.class.getDeclaredClasses();
        must(inside.length + 1 <= 12, "twelve classes at most");
        shape(FootKeeper.class);
        for (Class<?> c : inside) {
            shape(c);
            must(c.getDeclaredClasses().length == 0, "no deeper class: " + c);
        }
    }

    private static String bare(String source) {
        return source.replaceAll("(?s)/\\*.*?\\*/", "").replaceAll("//[^\n]*", "")
                .replaceAll("\"[^\"\n]*\"", "\"\"").replaceAll("'[^'\n]+'", "' '");
    }

    private static void absent(String code, String pattern) {
        Matcher m = Pattern.compile(pattern).matcher(code);
        if (m.find()) {
            must(false, "not in the source: " + m.group());
        }
    }

    private static void words(String source) {
        must(source.chars().allMatch(c -> c < 128), "signs below 128");
        String code = bare(source);
        absent(code, "\\b(throw|throws|try|catch|finally|synchronized|assert|protected|volatile|native|package)\\b");
        absent(code, "\\b(enum|record|yield|var|goto|transient|strictfp)\\b");
        absent(code, "->|::|@|\\.\\.\\.");
        absent(code, "\\b\\w+Exact\\b");
        absent(code, "\\b(hashCode|toString|equals|getClass|Object|Thread|Random|Exception)\\b");
        absent(code, "\\bSystem\\.(?!arraycopy\\b)");
        absent(code, "\\bMath\\.(?!(min|max|abs|floorMod|floorDiv)\\b)");
        absent(code, "\\bArrays\\.(?!(fill|copyOf|copyOfRange)\\b)");
        absent(code, "\\bLong\\.(?!MIN_VALUE\\b)|\\bInteger\\.");
        absent(code, "\\bimport (?!java\\.util\\.Arrays;)");
        absent(code, "\\b(static|private|final)\\s*\\{");
        absent(code, "\\bwhile\\s*\\(true\\)|for\\s*\\(;;\\)");
        absent(code, "\\b(float|double)\\b");
    }

    /** A method ends with the brace that stands as far in as its head. */
    private static void lengths(String source) {
        String[] lines = source.split("\n");
        Pattern head = Pattern.compile("^( {4}| {8})(?! )[^=;]*\\)\\s*\\{$");
        for (int i = 0; i < lines.length; i++) {
            Matcher m = head.matcher(lines[i]);
            if (m.matches()) {
                int end = i;
                while (end < lines.length && !lines[end].equals(m.group(1) + "}")) {
                    end++;
                }
                must(end - i + 1 <= 60, "sixty lines at most: " + lines[i]);
            }
        }
    }

    /** Two objects know nothing of one another. */
    private static void apart() {
        FootKeeper x = new FootKeeper();
        FootKeeper y = new FootKeeper();
        x.shooter(0, 0);
        x.feed('i');
        x.tape(0, 0, 1);
        must(y.count(0) == 0 && y.count(5) == 0 && y.read(0, 0) == FootKeeper.NO, "objects stand apart");
    }

    public static void main(String[] args) throws Exception {
        String source = Files.readString(SOURCE);
        face();
        shapes();
        words(source);
        lengths(source);
        apart();
        System.out.println(wrong == 0 ? "the rules are kept" : wrong + " rules are not kept");
        if (wrong != 0) {
            System.exit(1);
        }
    }
}
