import java.math.BigInteger;
import java.util.ArrayList;
import java.util.Arrays;
import java.util.HashSet;
import java.util.List;
import java.util.Set;
import java.util.function.Function;

/**
 * A second reading of the document, slow and plain, that shares no code with FootKeeper: conditions are
 * taken apart as texts each time, faults are found by following all that a grammar could go on with,
 * likelihoods by going through every outcome, and what is only asked is asked of copies.
 */
public final class Oracle {
    private static final int NONE = -1, BAD = -2, STATE = -3, FULL = -4;
    private static final int NOTHING = -11, CAST = -12, PLACE = -13, SIZE = -14;
    private static final long NO = Long.MIN_VALUE;
    private static final int[] ABOVE = {-1, 0, 0, 0, 1, 2, 3};

    private static final class Person {
        int number;
        int kind;
        int v;
        int last = 3;
        int shots;
        int goals;
        int[] row = new int[4];

        Person copy() {
            Person p = new Person();
            p.number = number;
            p.kind = kind;
            p.v = v;
            p.last = last;
            p.shots = shots;
            p.goals = goals;
            p.row = row.clone();
            return p;
        }
    }

    private static final class World {
        List<Person> people = new ArrayList<>();
        int shots;
        int goals;
        List<Integer> line = new ArrayList<>();
        List<Integer> seen = new ArrayList<>();
        List<int[]> book = new ArrayList<>();
        String ground;

        World copy() {
            World w = new World();
            for (Person p : people) {
                w.people.add(p.copy());
            }
            w.shots = shots;
            w.goals = goals;
            w.line.addAll(line);
            w.seen.addAll(seen);
            w.book.addAll(book);
            w.ground = ground;
            return w;
        }

        boolean has(int i) {
            return i >= 0 && i < people.size();
        }

        boolean value(String e, Person p, int s) {
            List<String> parts = apart(e, '|');
            if (parts.size() > 1) {
                return parts.stream().anyMatch(part -> value(part, p, s));
            }
            parts = apart(e, '&');
            if (parts.size() > 1) {
                return parts.stream().allMatch(part -> value(part, p, s));
            }
            if (e.charAt(0) == '!') {
                return !value(e.substring(1), p, s);
            }
            if (e.charAt(0) == '(') {
                return value(e.substring(1, e.length() - 1), p, s);
            }
            int n = Integer.parseInt(e.substring(2));
            int is = switch (e.charAt(0)) {
                case 'p' -> p.number;
                case 'k' -> p.kind;
                case 's' -> s;
                case 'n' -> p.shots % 10;
                case 'g' -> goals % 10;
                default -> shots % 10;
            };
            return switch (e.charAt(1)) {
                case '<' -> is < n;
                case '=' -> is == n;
                default -> is > n;
            };
        }

        int sum(String word, int otherwise, Person p, int side) {
            if (ground == null) {
                return otherwise;
            }
            boolean any = false;
            int sum = 0;
            for (String clause : ground.split(";")) {
                String[] words = clause.split(" ");
                if (words[0].equals(word)) {
                    any = true;
                    sum += value(words[2], p, side) ? Integer.parseInt(words[1]) : 0;
                }
            }
            return any ? Math.min(100, sum) : otherwise;
        }

        int sure(Person p, int side) {
            return sum("in", 80, p, side);
        }

        int saves(Person p, int side) {
            return sum("save", 40, p, side);
        }

        int note(Person p) {
            for (String clause : ground == null ? new String[0] : ground.split(";")) {
                int side = List.of("left", "stay", "right").indexOf(clause.split(" ")[0]);
                if (side >= 0 && value(clause.split(" ")[1], p, p.last)) {
                    return side;
                }
            }
            return p.last == 3 ? 1 : p.last;
        }

        int aimAs(Person p, int kind) {
            int plain = p.v % 3;
            switch (kind) {
                case 1:
                    return p.last == 0 ? 2 : p.last == 2 ? 0 : plain;
                case 2:
                    return p.last < 3 ? p.last : plain;
                case 3:
                    int note = note(p);
                    int most = -1;
                    int which = -1;
                    for (int side = 0; side < 3; side++) {
                        if (side != note && sure(p, side) > most) {
                            most = sure(p, side);
                            which = side;
                        }
                    }
                    return which;
                case 4:
                    return p.shots % 2 == 0 ? aimAs(p, 1) : 1;
                case 5:
                    return p.shots < 3 ? aimAs(p, 2) : 2 - aimAs(p, 2);
                case 6:
                    return note(p) == 1 ? p.row[p.shots % 4] : aimAs(p, 3);
                default:
                    return plain;
            }
        }

        int aim(Person p) {
            return aimAs(p, p.kind);
        }

        int chance(Person p, int side, int dive) {
            int c = sure(p, side);
            return side == dive ? Math.max(0, c - saves(p, side)) : c;
        }

        int chance(Person p) {
            return chance(p, aim(p), note(p));
        }

        void shot(int i, boolean in) {
            Person p = people.get(i);
            int side = aim(p);
            p.last = side;
            p.shots = Math.min(999, p.shots + 1);
            shots = Math.min(999, shots + 1);
            if (in) {
                p.goals = Math.min(999, p.goals + 1);
                goals = Math.min(999, goals + 1);
            }
        }
    }

    /** The parts of a condition between those signs that stand in no brackets. */
    private static List<String> apart(String e, char sign) {
        List<String> parts = new ArrayList<>();
        int depth = 0;
        int from = 0;
        for (int i = 0; i < e.length(); i++) {
            char c = e.charAt(i);
            depth += c == '(' ? 1 : c == ')' ? -1 : 0;
            if (c == sign && depth == 0) {
                parts.add(e.substring(from, i));
                from = i + 1;
            }
        }
        parts.add(e.substring(from));
        return parts;
    }

    // The grammar: what is above 127 stands for something; G + n is up to n clauses, E, T, F + depth
    private static final char N = 1001, D = 1002, L = 1003, R = 1004, C = 1005;
    private static final char G = 2000, E = 3000, T = 3100, F = 3200;

    private static List<String> goesOn(char c) {
        if (c == N) {
            return List.of("" + D, "" + D + D);
        }
        if (c == C) {
            String e = "" + E;
            return List.of("in " + N + " " + e, "save " + N + " " + e, "left " + e, "right " + e, "stay " + e);
        }
        if (c >= F) {
            List<String> f = new ArrayList<>(List.of("" + L + R + N));
            if (c - F < 4) {
                f.add("!" + (char) (c + 1));
                f.add("(" + (char) (c - F + E + 1) + ")");
            }
            return f;
        }
        if (c >= T) {
            String f = "" + (char) (c - T + F);
            return List.of(f, f + "&" + c);
        }
        if (c >= E) {
            String t = "" + (char) (c - E + T);
            return List.of(t, t + "|" + c);
        }
        return c == G + 1 ? List.of("" + C) : List.of("" + C, C + ";" + (char) (c - 1));
    }

    private static boolean fits(char symbol, char c) {
        switch (symbol) {
            case D:
                return c >= '0' && c <= '9';
            case L:
                return "pksnga".indexOf(c) >= 0;
            case R:
                return "<=>".indexOf(c) >= 0;
            default:
                return symbol == c;
        }
    }

    private static void step(String config, char c, Set<String> next) {
        if (config.isEmpty()) {
            return;
        }
        char first = config.charAt(0);
        if (first < 128 || first == D || first == L || first == R) {
            if (fits(first, c)) {
                next.add(config.substring(1));
            }
            return;
        }
        for (String on : goesOn(first)) {
            step(on + config.substring(1), c, next);
        }
    }

    /** The place of the fault, or -1. */
    static int faultOf(String text) {
        Set<String> configs = new HashSet<>(Set.of("" + (char) (G + 10)));
        for (int i = 0; i < text.length(); i++) {
            Set<String> next = new HashSet<>();
            for (String config : configs) {
                step(config, text.charAt(i), next);
            }
            if (next.isEmpty()) {
                return i;
            }
            configs = next;
        }
        return configs.contains("") ? -1 : text.length();
    }

    private World w = new World();
    private World image;
    private String text = "";
    private int grounds;
    private final List<Integer> trace = new ArrayList<>();
    private final int[] sorts = {-1, -1, -1, -1, -1, -1};
    private final long[][] tapes = new long[6][];

    private static long lowest(BigInteger above, BigInteger below, int part) {
        BigInteger g = above.gcd(below);
        return (part == 0 ? above : below).divide(g).longValueExact();
    }

    private static long lowest(long above, long below, int part) {
        return lowest(BigInteger.valueOf(above), BigInteger.valueOf(below), part);
    }

    public int shooter(int kind, int v) {
        if (kind < 0 || kind > 6) {
            return NONE;
        }
        if (v < 0 || v > 9) {
            return BAD;
        }
        if (w.people.size() == 6) {
            return FULL;
        }
        Person p = new Person();
        p.number = w.people.size();
        p.kind = kind;
        p.v = v;
        w.people.add(p);
        return p.number;
    }

    public int of(int shooter, int what) {
        if (!w.has(shooter)) {
            return NONE;
        }
        Person p = w.people.get(shooter);
        if (what >= 10 && what <= 12) {
            return w.sure(p, what - 10);
        }
        if (what >= 20 && what <= 22) {
            return w.saves(p, what - 20);
        }
        return switch (what) {
            case 0 -> p.kind;
            case 1 -> p.v;
            case 2 -> p.last;
            case 3 -> p.shots;
            case 4 -> p.goals;
            case 5 -> w.aim(p);
            case 6 -> w.note(p);
            default -> NONE;
        };
    }

    public int last(int shooter, int side) {
        if (!w.has(shooter) || side < 0 || side > 3) {
            return NONE;
        }
        int was = w.people.get(shooter).last;
        w.people.get(shooter).last = side;
        return was;
    }

    public int row(int shooter, int part, int n) {
        if (!w.has(shooter) || part < 0 || part > 3) {
            return NONE;
        }
        if (n < 0 || n > 2) {
            return BAD;
        }
        if (w.people.get(shooter).kind != 6) {
            return STATE;
        }
        int was = w.people.get(shooter).row[part];
        w.people.get(shooter).row[part] = n;
        return was;
    }

    public int feed(int sign) {
        if (sign < 0 || sign > 127) {
            return BAD;
        }
        if (text.length() == 100) {
            return FULL;
        }
        text += (char) sign;
        return text.length();
    }

    public int ground() {
        if (grounds == 6) {
            return FULL;
        }
        String t = text;
        text = "";
        int fault = faultOf(t);
        if (fault >= 0) {
            return -10 - fault;
        }
        w.ground = t;
        return grounds++;
    }

    public int told(int what) {
        return what == 0 ? w.shots : what == 1 ? w.goals : NONE;
    }

    public int chance(int shooter, int side, int dive) {
        if (!w.has(shooter) || side < 0 || side > 2 || dive < 0 || dive > 2) {
            return NONE;
        }
        return w.chance(w.people.get(shooter), side, dive);
    }

    public int shoot(int shooter, int draw) {
        if (!w.has(shooter)) {
            return NONE;
        }
        if (draw < 0 || draw > 99) {
            return BAD;
        }
        if (w.shots == 999) {
            return STATE;
        }
        Person p = w.people.get(shooter);
        boolean in = draw < w.chance(p);
        w.shot(shooter, in);
        return p.last + (in ? 10 : 0);
    }

    public int anew() {
        int was = w.goals;
        w.shots = 0;
        w.goals = 0;
        return was;
    }

    public int best(int shooter, int what) {
        if (!w.has(shooter) || what < 0 || what > 1) {
            return NONE;
        }
        Person p = w.people.get(shooter);
        int[] by = new int[3];
        for (int side = 0; side < 3; side++) {
            by[side] = w.chance(p, side, w.note(p));
        }
        int most = Arrays.stream(by).max().getAsInt();
        return what == 1 ? most : by[0] == most ? 0 : by[1] == most ? 1 : 2;
    }

    public int mix(int shooter, int what) {
        if (!w.has(shooter) || what < 0 || what > 1) {
            return NONE;
        }
        Person p = w.people.get(shooter);
        int[][] c = new int[3][3];
        for (int side = 0; side < 3; side++) {
            for (int dive = 0; dive < 3; dive++) {
                c[side][dive] = w.chance(p, side, dive);
            }
        }
        int greatest = -1;
        int which = -1;
        for (int l = 10; l >= 0; l--) {
            for (int m = 10 - l; m >= 0; m--) {
                int r = 10 - l - m;
                int least = 99999;
                for (int dive = 0; dive < 3; dive++) {
                    least = Math.min(least, l * c[0][dive] + m * c[1][dive] + r * c[2][dive]);
                }
                if (least >= greatest) {
                    greatest = least;
                    which = 100 * l + 10 * m + r;
                }
            }
        }
        return what == 0 ? which : greatest;
    }

    public int line(int shooter) {
        if (shooter == -1) {
            w.line.clear();
            return 0;
        }
        if (!w.has(shooter)) {
            return NONE;
        }
        if (w.line.size() == 4) {
            return FULL;
        }
        w.line.add(shooter);
        return w.line.size();
    }

    /** How likely (of 100 to the how many) so many are in, by every outcome. */
    private BigInteger[] outcomes(List<Integer> row) {
        BigInteger[] sums = new BigInteger[5];
        Arrays.fill(sums, BigInteger.ZERO);
        for (int bits = 0; bits < 1 << row.size(); bits++) {
            World would = w.copy();
            BigInteger weight = BigInteger.ONE;
            for (int i = 0; i < row.size(); i++) {
                boolean in = (bits >> i & 1) == 1;
                int chance = would.chance(would.people.get(row.get(i)));
                weight = weight.multiply(BigInteger.valueOf(in ? chance : 100 - chance));
                would.shot(row.get(i), in);
            }
            sums[Integer.bitCount(bits)] = sums[Integer.bitCount(bits)].add(weight);
        }
        return sums;
    }

    public long likely(int g, int part) {
        if (g < 0 || g > 4 || part < 0 || part > 1) {
            return NO;
        }
        return lowest(outcomes(w.line)[g], BigInteger.valueOf(100).pow(w.line.size()), part);
    }

    private static void orders(List<Integer> ahead, int n, List<List<Integer>> all) {
        if (ahead.size() == n) {
            all.add(ahead);
            return;
        }
        for (int place = 0; place < n; place++) {
            if (!ahead.contains(place)) {
                List<Integer> more = new ArrayList<>(ahead);
                more.add(place);
                orders(more, n, all);
            }
        }
    }

    public int order(int k) {
        if (k < 0 || k > 3) {
            return NONE;
        }
        if (k >= w.line.size()) {
            return -5;
        }
        List<List<Integer>> all = new ArrayList<>();
        orders(List.of(), w.line.size(), all);
        BigInteger most = null;
        List<Integer> which = null;
        for (List<Integer> order : all) {
            List<Integer> row = new ArrayList<>();
            for (int place : order) {
                row.add(w.line.get(place));
            }
            BigInteger[] sums = outcomes(row);
            BigInteger sum = BigInteger.ZERO;
            for (int in = 0; in < 5; in++) {
                sum = in > row.size() / 2.0 ? sum.add(sums[in]) : sum;
            }
            if (most == null || sum.compareTo(most) > 0) {
                most = sum;
                which = order;
            }
        }
        return which.get(k);
    }

    public long win(int q, int what, int part) {
        if (q < 0 || q > 100 || what < 0 || what > 1 || part < 0 || part > 1) {
            return NO;
        }
        BigInteger[] ours = outcomes(w.line);
        int n = w.line.size();
        BigInteger sum = BigInteger.ZERO;
        for (int bits = 0; bits < 1 << n; bits++) {
            BigInteger weight = BigInteger.ONE;
            for (int i = 0; i < n; i++) {
                weight = weight.multiply(BigInteger.valueOf((bits >> i & 1) == 1 ? q : 100 - q));
            }
            int theirs = Integer.bitCount(bits);
            for (int in = 0; in < 5; in++) {
                if (what == 0 ? in > theirs : in == theirs) {
                    sum = sum.add(weight.multiply(ours[in]));
                }
            }
        }
        return lowest(sum, BigInteger.valueOf(100).pow(2 * n), part);
    }

    public int worth(int shooter) {
        if (!w.has(shooter)) {
            return -1001;
        }
        Person p = w.people.get(shooter);
        return w.chance(p, w.aim(p), 1) - w.chance(p);
    }

    public int stop(int shooter) {
        if (!w.has(shooter)) {
            return -1001;
        }
        Person p = w.people.get(shooter);
        return w.chance(p, w.aimAs(p, 3), w.note(p)) - w.chance(p);
    }

    public int forget(int shooter, int what) {
        if (!w.has(shooter) || what < 0 || what > 1) {
            return NONE;
        }
        int[] by = new int[4];
        for (int last = 0; last < 4; last++) {
            World would = w.copy();
            would.people.get(shooter).last = last;
            by[last] = would.chance(would.people.get(shooter));
        }
        int most = Arrays.stream(by).max().getAsInt();
        int which = 0;
        while (by[which] < most) {
            which++;
        }
        return what == 0 ? which : most;
    }

    public int caught(int shooter, int n) {
        if (!w.has(shooter)) {
            return NONE;
        }
        if (n < 0 || n > 20) {
            return BAD;
        }
        World would = w.copy();
        Person p = would.people.get(shooter);
        int times = 0;
        for (int i = 0; i < n; i++) {
            times += would.aim(p) == would.note(p) ? 1 : 0;
            would.shot(shooter, false);
        }
        return times;
    }

    public int see(int side) {
        if (side == -1) {
            w.seen.clear();
            return 0;
        }
        if (side < 0 || side > 2) {
            return NONE;
        }
        if (w.seen.size() == 6) {
            return FULL;
        }
        w.seen.add(side);
        return w.seen.size();
    }

    public int who() {
        int bits = 0;
        for (int i = 0; i < w.people.size(); i++) {
            World would = w.copy();
            List<Integer> went = new ArrayList<>();
            for (int k = 0; k < w.seen.size(); k++) {
                would.shot(i, false);
                went.add(would.people.get(i).last);
            }
            bits += went.equals(w.seen) ? 1 << i : 0;
        }
        return bits;
    }

    public long odds(int shooter, int part) {
        if (!w.has(shooter) || part < 0 || part > 1) {
            return NO;
        }
        Person p = w.people.get(shooter);
        int note = w.note(p);
        return lowest(w.chance(p, 0, note) + w.chance(p, 1, note) + w.chance(p, 2, note), 300, part);
    }

    public long mean(int part) {
        if (part < 0 || part > 1 || w.people.isEmpty()) {
            return NO;
        }
        return lowest(w.people.stream().mapToInt(w::chance).sum(), w.people.size(), part);
    }

    public int book(int shooter, int draw) {
        if (shooter == -1) {
            w.book.clear();
            return 0;
        }
        if (!w.has(shooter)) {
            return NONE;
        }
        if (draw < 0 || draw > 99) {
            return BAD;
        }
        if (w.book.size() == 10) {
            return FULL;
        }
        w.book.add(new int[] {shooter, draw});
        return w.book.size();
    }

    public int looked() {
        World would = w.copy();
        for (int i = 0; i < w.book.size(); i++) {
            int shooter = w.book.get(i)[0];
            boolean in = w.book.get(i)[1] < would.chance(would.people.get(shooter));
            if (!in) {
                return i;
            }
            would.shot(shooter, true);
        }
        return -5;
    }

    public int judge(int tape, int i) {
        if (tape < 0 || tape > 5) {
            return NONE;
        }
        if (sorts[tape] > 0) {
            return CAST;
        }
        if (w.people.isEmpty()) {
            return -5;
        }
        if (i < 0 || sorts[tape] < 0) {
            return 100;
        }
        for (int k = 0; k < w.people.size(); k++) {
            if ((long) i + k >= tapes[tape].length) {
                return 100 + k;
            }
            if (tapes[tape][i + k] != w.people.get(k).last) {
                return k;
            }
        }
        return -5;
    }

    public int image() {
        image = w.copy();
        return w.people.size();
    }

    public int undo() {
        if (image == null) {
            return STATE;
        }
        w = image.copy();
        return w.people.size();
    }

    /** The body for an act (0 aims, 1 shows, 2 tells), from a kind on upward. */
    private int body(Person p, int from, int act, int x) {
        int kind = from;
        while (true) {
            int number = List.of("10 11 12", "- 20 -", "30 - -", "- - 40", "50 51 -", "- - 60", "71 70 -")
                    .get(kind).split(" ")[act].equals("-") ? -1 : 0;
            if (number == 0) {
                break;
            }
            kind = ABOVE[kind];
        }
        int here = kind;
        Function<int[], Integer> above = a -> body(p, ABOVE[here], a[0], a[1]);
        switch (kind * 10 + act) {
            case 0:
                trace.add(10);
                return x + p.number;
            case 1:
                trace.add(11);
                return body(p, p.kind, 0, x) - p.v;
            case 2:
                trace.add(12);
                return body(p, p.kind, 1, x) * 2;
            case 11:
                trace.add(20);
                return above.apply(new int[] {1, x}) ^ 6;
            case 20:
                trace.add(30);
                return above.apply(new int[] {0, x * 3});
            case 32:
                trace.add(40);
                int told = above.apply(new int[] {2, x});
                return told + body(p, p.kind, 1, 1);
            case 40:
                trace.add(50);
                return -above.apply(new int[] {0, x});
            case 41:
                trace.add(51);
                return above.apply(new int[] {1, x + 1});
            case 52:
                trace.add(60);
                return above.apply(new int[] {2, x - p.number});
            case 61:
                trace.add(70);
                int shown = above.apply(new int[] {1, x});
                return shown + above.apply(new int[] {0, 2});
            case 60:
                trace.add(71);
                return above.apply(new int[] {0, x}) ^ p.v;
            default:
                throw new IllegalStateException("no body " + kind + " " + act);
        }
    }

    public int act(int shooter, int act, int x) {
        trace.clear();
        if (!w.has(shooter) || act < 0 || act > 2) {
            return 0;
        }
        Person p = w.people.get(shooter);
        return body(p, p.kind, act, x);
    }

    public int trace(int i) {
        return i < 0 || i >= Math.min(20, trace.size()) ? NONE : trace.get(i);
    }

    public int taken(int shooter, int k) {
        if (k < 0 || k > 6) {
            return BAD;
        }
        if (!w.has(shooter)) {
            return NOTHING;
        }
        int kind = w.people.get(shooter).kind;
        int up = kind;
        while (up != -1 && up != k) {
            up = ABOVE[up];
        }
        return up == k ? kind : CAST;
    }

    public int count(int what) {
        return switch (what) {
            case 0 -> w.people.size();
            case 1 -> grounds;
            case 2 -> w.line.size();
            case 3 -> w.seen.size();
            case 4 -> w.book.size();
            case 5 -> text.length();
            case 6 -> trace.size();
            default -> BAD;
        };
    }

    public int tape(int tape, int sort, int n) {
        if (tape < 0 || tape > 5) {
            return NONE;
        }
        if (sort < -1 || sort > 4 || sort >= 0 && n > 60) {
            return BAD;
        }
        if (sort >= 0 && n < 0) {
            return SIZE;
        }
        sorts[tape] = sort;
        tapes[tape] = sort < 0 ? null : new long[n];
        return 1;
    }

    public int item(int tape, int i, long v) {
        if (tape < 0 || tape > 5) {
            return NONE;
        }
        if (tapes[tape] == null) {
            return NOTHING;
        }
        if (i < 0 || i >= tapes[tape].length) {
            return PLACE;
        }
        tapes[tape][i] = switch (sorts[tape]) {
            case 0 -> v << 56 >> 56;
            case 1 -> v << 48 >> 48;
            case 2 -> v << 32 >> 32;
            case 3 -> v;
            default -> v == 0 ? 0 : 1;
        };
        return 1;
    }

    public long read(int tape, int i) {
        if (tape < 0 || tape > 5 || tapes[tape] == null || i < 0 || i >= tapes[tape].length) {
            return NO;
        }
        return tapes[tape][i];
    }

    public int shift(int tape, int i, int other, int j, int n) {
        if (tape < 0 || tape > 5 || other < 0 || other > 5) {
            return NONE;
        }
        if (tapes[tape] == null || tapes[other] == null) {
            return NOTHING;
        }
        if (sorts[tape] != sorts[other]) {
            return CAST;
        }
        if (n < 0 || i < 0 || j < 0 || (long) i + n > tapes[tape].length || (long) j + n > tapes[other].length) {
            return PLACE;
        }
        long[] before = tapes[tape].clone();
        for (int k = 0; k < n; k++) {
            tapes[other][j + k] = before[i + k];
        }
        return n;
    }
}
