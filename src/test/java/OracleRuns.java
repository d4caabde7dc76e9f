import java.lang.reflect.Method;
import java.util.ArrayList;
import java.util.List;

/**
 * Runs of calls drawn by a fixed rule, each answer held against Oracle's. Two kinds of runs: with whole
 * grounds and calls that mostly fit, and with texts and numbers that mostly do not.
 */
public final class OracleRuns {
    private static final int RUNS = 1500, CALLS = 512;
    private static final String[] EARLY = {"shooter", "last", "row", "shoot", "line", "see", "book", "image", "tape"};
    private static final String[] DEAR = {"order", "win", "likely"};

    private static long seed;
    private static final List<Method> METHODS = new ArrayList<>();

    private OracleRuns() {
    }

    private static int draw(int n) {
        seed = seed * 6364136223846793005L + 1442695040888963407L;
        return (int) ((seed >>> 33) % n);
    }

    private static String pick(String... of) {
        return of[draw(of.length)];
    }

    private static String condition(int depth, int room) {
        StringBuilder b = new StringBuilder();
        int parts = room < 12 ? 1 : 1 + draw(3);
        for (int i = 0; i < parts; i++) {
            b.append(i == 0 ? "" : pick("&", "|"));
            int how = draw(6);
            if (how == 0 && depth < 4) {
                b.append('!').append(unit(depth + 1, room / parts));
            } else {
                b.append(unit(depth, room / parts));
            }
        }
        return b.toString();
    }

    private static String unit(int depth, int room) {
        if (depth < 4 && room > 8 && draw(4) == 0) {
            return "(" + condition(depth + 1, room - 2) + ")";
        }
        String letter = pick("p", "k", "s", "s", "n", "g", "a");
        return letter + pick("<", "=", ">") + (draw(15) == 0 ? "" + draw(100) : "" + draw(letter.equals("s") ? 4 : 6));
    }

    private static String clause(int room) {
        String word = pick("in", "in", "in", "save", "save", "left", "right", "stay");
        String n = word.equals("in") || word.equals("save") ? " " + draw(draw(3) == 0 ? 10 : 100) : "";
        return word + n + " " + condition(0, room - word.length() - n.length() - 1);
    }

    private static String wholeGround() {
        for (int tries = 0; tries < 1000; tries++) {
            StringBuilder b = new StringBuilder();
            int clauses = 1 + draw(8);
            for (int i = 0; i < clauses; i++) {
                b.append(i == 0 ? "" : ";").append(clause(100 / clauses));
            }
            if (b.length() <= 100) {
                return b.toString();
            }
        }
        return "in 1 p=1";
    }

    private static String anyText() {
        String signs = "pksnga<=>()!&|; 0123456789insaveleftrightstay";
        StringBuilder b = new StringBuilder(wholeGround());
        int changes = draw(3);
        for (int i = 0; i < changes; i++) {
            int place = draw(b.length());
            char sign = signs.charAt(draw(signs.length()));
            switch (draw(4)) {
                case 0:
                    b.setCharAt(place, sign);
                    break;
                case 1:
                    b.insert(place, sign);
                    break;
                case 2:
                    b.deleteCharAt(place);
                    break;
                default:
                    b.setLength(place + 1);
                    break;
            }
        }
        return b.toString();
    }

    private static int number(boolean wild) {
        int how = draw(wild ? 12 : 60);
        if (how == 0) {
            return draw(5) - 2;
        }
        if (how == 1) {
            return draw(140);
        }
        if (how == 2) {
            return new int[] {Integer.MAX_VALUE, Integer.MIN_VALUE, Integer.MAX_VALUE - 1, -1000}[draw(4)];
        }
        return draw(7);
    }

    private static Object argument(String name, int at, Class<?> type, boolean wild) {
        boolean fit = draw(wild ? 3 : 20) != 0;
        if (type == long.class) {
            return draw(3) == 0 ? (long) draw(5) : (seed ^ seed << 7);
        }
        if (fit && (name.equals("shoot") || name.equals("book")) && at == 1) {
            return draw(100);
        }
        if (fit && name.equals("win") && at == 0) {
            return draw(101);
        }
        if (fit && name.equals("of") && at == 1) {
            return draw(3) == 0 ? 20 + draw(3) : draw(2) == 0 ? 10 + draw(3) : draw(7);
        }
        if (fit && name.equals("caught") && at == 1) {
            return draw(21);
        }
        if (fit && name.equals("act")) {
            return at == 2 ? (int) seed : at == 1 ? draw(3) : draw(6);
        }
        if (fit && name.equals("tape")) {
            return at == 2 ? draw(12) : at == 1 ? (draw(2) == 0 ? 0 : draw(6) - 1) : draw(6);
        }
        if (fit && name.equals("feed")) {
            return (int) "in 5 p=1".charAt(draw(8));
        }
        if (fit && at >= 1) {
            return draw(3);
        }
        return number(wild);
    }

    private static boolean same(FootKeeper x, Oracle y, Method m, String log, Object... args) throws Exception {
        long got = ((Number) m.invoke(x, args)).longValue();
        long want = ((Number) Oracle.class.getMethod(m.getName(), m.getParameterTypes()).invoke(y, args)).longValue();
        if (got == want) {
            return true;
        }
        System.out.println(log + m.getName() + List.of(args) + " answered " + got + ", the oracle " + want);
        return false;
    }

    private static Method method(String name) {
        for (Method m : METHODS) {
            if (m.getName().equals(name)) {
                return m;
            }
        }
        throw new IllegalArgumentException(name);
    }

    private static Method next(boolean early) {
        if (early && draw(2) == 0) {
            return method(pick(EARLY));
        }
        Method m = METHODS.get(draw(METHODS.size()));
        boolean dear = List.of(DEAR).contains(m.getName());
        return dear && draw(4) != 0 ? method("shoot") : m;
    }

    private static int feedAll(FootKeeper x, Oracle y, String text) throws Exception {
        for (int i = 0; i < text.length(); i++) {
            if (!same(x, y, method("feed"), text + ": ", (int) text.charAt(i))) {
                return -1;
            }
        }
        return same(x, y, method("ground"), text + ": ") ? text.length() + 1 : -1;
    }

    private static boolean run(int number) throws Exception {
        FootKeeper x = new FootKeeper();
        Oracle y = new Oracle();
        boolean wild = number % 3 == 2;
        String log = "run " + number + ": ";
        int calls = 0;
        while (calls < CALLS) {
            if (calls == 0 && number % 7 != 0 || draw(150) == 0) {
                int more = feedAll(x, y, draw(wild ? 2 : 6) == 0 ? anyText() : wholeGround());
                if (more < 0) {
                    return false;
                }
                calls += more;
            }
            Method m = next(calls < 150);
            Object[] args = new Object[m.getParameterCount()];
            for (int i = 0; i < args.length; i++) {
                args[i] = argument(m.getName(), i, m.getParameterTypes()[i], wild);
            }
            if (!same(x, y, m, log, args)) {
                return false;
            }
            calls++;
        }
        return true;
    }

    /** Every text that one change makes of a ground has its fault where the oracle finds it. */
    private static int faults() throws Exception {
        int wrong = 0;
        for (int i = 0; i < 4000; i++) {
            FootKeeper x = new FootKeeper();
            Oracle y = new Oracle();
            if (feedAll(x, y, anyText()) < 0) {
                wrong++;
            }
        }
        return wrong;
    }

    public static void main(String[] args) throws Exception {
        for (Method m : FootKeeper.class.getDeclaredMethods()) {
            if (java.lang.reflect.Modifier.isPublic(m.getModifiers())) {
                METHODS.add(m);
            }
        }
        // The order in which methods are told is the machine's own; runs are to be the same everywhere
        METHODS.sort((a, b) -> a.getName().compareTo(b.getName()));
        seed = 20261118;
        int wrong = faults();
        for (int i = 0; i < RUNS; i++) {
            seed = i;
            if (!run(i)) {
                wrong++;
            }
        }
        System.out.println(RUNS + " runs and 4000 texts, " + wrong + " not as due");
        if (wrong != 0) {
            System.exit(1);
        }
    }
}
