import java.util.Arrays;

/**
 * Eleven yards: shooters of kinds, a keeper who follows a note, and grounds that are texts.
 * What each call answers is told by the document, promise by promise.
 */
public final class FootKeeper {
    public static final int NONE = -1, BAD = -2, STATE = -3, FULL = -4;
    public static final long NO = Long.MIN_VALUE;

    private static final int NOTHING = -11, CAST = -12, PLACE = -13, SIZE = -14;
    private static final int NONE_FOUND = -5, ENDED_EARLY = 100, NO_DIFFERENCE = -1001;
    private static final int FAULT_BASE = -10, IN_MARK = 10;

    private static final int LEFT = 0, MIDDLE = 1, RIGHT = 2, SIDES = 3, NO_LAST = 3;
    private static final int KINDS = 7, MOST_V = 9, DRAWS = 100, CEILING = 999;
    private static final int MOST_SHOOTERS = 6, MOST_GROUNDS = 6, MOST_CLAUSES = 10, MOST_NESTED = 4;
    private static final int MOST_TEXT = 100, MOST_LINE = 4, MOST_SEEN = 6, MOST_BOOK = 10, MOST_CAUGHT = 20;
    private static final int TOLD_PARTS = 4, MOST_TRACE = 20, MIX_PARTS = 10, LAST_SIGN = 127;
    private static final int TAPES = 6, MOST_ITEMS = 60, BYTES = 0, SHORTS = 1, INTS = 2, LONGS = 3, BOOLEANS = 4;

    private final Shooter[] shooters;
    private final Ground[] grounds;
    private int groundCount;
    private final Row text;
    private final Table now;
    private final Table kept;
    private boolean imageTaken;
    /** What would be after so many of a row; the asking calls write here alone. */
    private final Table[] then;
    private final View view;
    private final Row ran;
    private final long[][] tapes;
    private final int[] sorts;
    private final int[] sizes;
    /** By how many are in: how likely, out of 100 for each that shoots. */
    private final long[] chances;
    private final long[] others;
    private final int[] places;
    private final int[] bestPlaces;

    public FootKeeper() {
        shooters = new Shooter[MOST_SHOOTERS];
        grounds = new Ground[MOST_GROUNDS];
        for (int i = 0; i < grounds.length; i++) {
            grounds[i] = new Ground();
        }
        text = new Row(MOST_TEXT);
        now = new Table();
        kept = new Table();
        then = new Table[MOST_LINE + 1];
        for (int i = 0; i < then.length; i++) {
            then[i] = new Table();
        }
        view = new View();
        ran = new Row(MOST_TRACE);
        tapes = new long[TAPES][MOST_ITEMS];
        sorts = new int[TAPES];
        Arrays.fill(sorts, NONE);
        sizes = new int[TAPES];
        chances = new long[MOST_LINE + 1];
        others = new long[MOST_LINE + 1];
        places = new int[MOST_LINE];
        bestPlaces = new int[MOST_LINE];
    }

    // ---- shooters, grounds

    public int shooter(int kind, int v) {
        if (kind < 0 || kind >= KINDS) {
            return NONE;
        }
        if (v < 0 || v > MOST_V) {
            return BAD;
        }
        int number = now.shooters;
        if (number < 0 || number >= shooters.length) {
            return FULL;
        }
        shooters[number] = newShooter(kind, number, v);
        now.shooters = number + 1;
        return number;
    }

    public int of(int shooter, int what) {
        Shooter one = find(shooter);
        if (one == null) {
            return NONE;
        }
        switch (what) {
            case 0:
                return one.kind();
            case 1:
                return one.v;
            case 2:
                return now.lastOf(shooter);
            case 3:
                return now.shotsOf(shooter);
            case 4:
                return now.goalsOf(shooter);
            default:
                look(now, one);
                return seenOf(one, what);
        }
    }

    public int last(int shooter, int side) {
        if (find(shooter) == null || side < 0 || side > NO_LAST) {
            return NONE;
        }
        int before = now.lastOf(shooter);
        now.setLast(shooter, side);
        return before;
    }

    public int row(int shooter, int part, int n) {
        Shooter one = find(shooter);
        if (one == null || part < 0 || part >= TOLD_PARTS) {
            return NONE;
        }
        if (!isSide(n)) {
            return BAD;
        }
        if (!(one instanceof Told)) {
            return STATE;
        }
        int before = now.toldOf(shooter, part);
        now.setTold(shooter, part, n);
        return before;
    }

    public int feed(int sign) {
        if (sign < 0 || sign > LAST_SIGN) {
            return BAD;
        }
        return text.add(sign) ? text.size : FULL;
    }

    public int ground() {
        if (groundCount < 0 || groundCount >= grounds.length) {
            return FULL;
        }
        Ground next = grounds[groundCount];
        if (next == null) {
            return FULL;
        }
        int fault = next.parse(text);
        text.clear();
        if (fault != NONE) {
            return FAULT_BASE - fault;
        }
        now.holding = groundCount;
        groundCount++;
        return now.holding;
    }

    public int told(int what) {
        if (what == 0) {
            return now.shots;
        }
        return what == 1 ? now.goals : NONE;
    }

    // ---- shots

    public int chance(int shooter, int side, int dive) {
        Shooter one = find(shooter);
        if (one == null || !isSide(side) || !isSide(dive)) {
            return NONE;
        }
        look(now, one);
        return view.chanceBy(side, dive);
    }

    public int shoot(int shooter, int draw) {
        Shooter one = find(shooter);
        if (one == null) {
            return NONE;
        }
        if (!isDraw(draw)) {
            return BAD;
        }
        if (now.shots >= CEILING) {
            return STATE;
        }
        look(now, one);
        int side = one.side(view, now);
        boolean in = draw < view.chanceBy(side, view.note);
        now.addShot(shooter, side, in);
        return in ? IN_MARK + side : side;
    }

    public int anew() {
        int before = now.goals;
        now.shots = 0;
        now.goals = 0;
        return before;
    }

    // ---- sides, mixes

    public int best(int shooter, int what) {
        Shooter one = find(shooter);
        if (one == null || !isHalf(what)) {
            return NONE;
        }
        look(now, one);
        int side = view.bestSide();
        return what == 0 ? side : view.chanceBy(side, view.note);
    }

    public int mix(int shooter, int what) {
        Shooter one = find(shooter);
        if (one == null || !isHalf(what)) {
            return NONE;
        }
        look(now, one);
        int which = 0;
        int greatest = NONE;
        for (int l = 0; l <= MIX_PARTS; l++) {
            for (int m = 0; m <= MIX_PARTS - l; m++) {
                int r = MIX_PARTS - l - m;
                int least = view.leastSum(l, m, r);
                if (least > greatest) {
                    greatest = least;
                    which = 100 * l + 10 * m + r;
                }
            }
        }
        return what == 0 ? which : greatest;
    }

    // ---- rows; part 0 above, 1 below the line

    public int line(int shooter) {
        if (shooter == NONE) {
            return now.line.clear();
        }
        if (find(shooter) == null) {
            return NONE;
        }
        return now.line.add(shooter) ? now.line.size : FULL;
    }

    public long likely(int g, int part) {
        if (g < 0 || g > MOST_LINE || !isHalf(part)) {
            return NO;
        }
        reckonLine();
        return g < chances.length ? lowest(chances[g], hundreds(now.line.size), part) : NO;
    }

    public int order(int k) {
        if (k < 0 || k >= MOST_LINE) {
            return NONE;
        }
        if (k >= now.line.size) {
            return NONE_FOUND;
        }
        chooseOrder(now.line.size);
        return k < bestPlaces.length ? bestPlaces[k] : NONE;
    }

    public long win(int q, int what, int part) {
        if (q < 0 || q > DRAWS || !isHalf(what) || !isHalf(part)) {
            return NO;
        }
        reckonLine();
        reckonOthers(q, now.line.size);
        long more = 0;
        long even = 0;
        long fewer = 0;
        for (int i = 0; i < chances.length && i < others.length; i++) {
            more += chances[i] * fewer;
            even += chances[i] * others[i];
            fewer += others[i];
        }
        return lowest(what == 0 ? more : even, hundreds(2 * now.line.size), part);
    }

    // ---- notes, stops

    public int worth(int shooter) {
        Shooter one = find(shooter);
        if (one == null) {
            return NO_DIFFERENCE;
        }
        look(now, one);
        int side = one.side(view, now);
        return view.chanceBy(side, MIDDLE) - view.chanceBy(side, view.note);
    }

    public int stop(int shooter) {
        Shooter one = find(shooter);
        if (one == null) {
            return NO_DIFFERENCE;
        }
        look(now, one);
        int side = one.side(view, now);
        return view.chanceBy(view.sideAway(), view.note) - view.chanceBy(side, view.note);
    }

    public int forget(int shooter, int what) {
        Shooter one = find(shooter);
        if (one == null || !isHalf(what)) {
            return NONE;
        }
        Table would = supposed();
        int which = 0;
        int greatest = NONE;
        for (int last = 0; last <= NO_LAST; last++) {
            would.setLast(shooter, last);
            look(would, one);
            int chance = view.chanceBy(one.side(view, would), view.note);
            if (chance > greatest) {
                greatest = chance;
                which = last;
            }
        }
        return what == 0 ? which : greatest;
    }

    public int caught(int shooter, int n) {
        Shooter one = find(shooter);
        if (one == null) {
            return NONE;
        }
        if (n < 0 || n > MOST_CAUGHT) {
            return BAD;
        }
        Table would = supposed();
        int times = 0;
        for (int i = 0; i < n; i++) {
            look(would, one);
            int side = one.side(view, would);
            if (side == view.note) {
                times++;
            }
            would.addShot(shooter, side, false);
        }
        return times;
    }

    // ---- seen, odds, books

    public int see(int side) {
        if (side == NONE) {
            return now.seen.clear();
        }
        if (!isSide(side)) {
            return NONE;
        }
        return now.seen.add(side) ? now.seen.size : FULL;
    }

    public int who() {
        int bits = 0;
        for (int i = 0; i < now.shooters; i++) {
            Shooter one = find(i);
            if (one != null && goesAsSeen(one)) {
                bits |= 1 << i;
            }
        }
        return bits;
    }

    public long odds(int shooter, int part) {
        Shooter one = find(shooter);
        if (one == null || !isHalf(part)) {
            return NO;
        }
        look(now, one);
        long sum = 0;
        for (int side = 0; side < SIDES; side++) {
            sum += view.chanceBy(side, view.note);
        }
        return lowest(sum, SIDES * DRAWS, part);
    }

    public long mean(int part) {
        if (!isHalf(part) || now.shooters < 1) {
            return NO;
        }
        long sum = 0;
        for (int i = 0; i < now.shooters; i++) {
            Shooter one = find(i);
            if (one != null) {
                look(now, one);
                sum += view.chanceBy(one.side(view, now), view.note);
            }
        }
        return lowest(sum, now.shooters, part);
    }

    public int book(int shooter, int draw) {
        if (shooter == NONE) {
            now.bookDraws.clear();
            return now.bookShooters.clear();
        }
        if (find(shooter) == null) {
            return NONE;
        }
        if (!isDraw(draw)) {
            return BAD;
        }
        if (!now.bookShooters.add(shooter)) {
            return FULL;
        }
        now.bookDraws.add(draw);
        return now.bookShooters.size;
    }

    public int looked() {
        Table would = supposed();
        for (int i = 0; i < now.bookShooters.size; i++) {
            Shooter one = find(now.bookShooters.at(i));
            if (one != null) {
                look(would, one);
                int side = one.side(view, would);
                if (now.bookDraws.at(i) >= view.chanceBy(side, view.note)) {
                    return i;
                }
                would.addShot(one.number, side, true);
            }
        }
        return NONE_FOUND;
    }

    // ---- judging, the image, acts, tapes

    public int judge(int tape, int i) {
        if (!isTape(tape)) {
            return NONE;
        }
        if (sorts[tape] != NONE && sorts[tape] != BYTES) {
            return CAST;
        }
        for (int k = 0; k < now.shooters; k++) {
            // i is held against the row first, so that i + k cannot wrap around
            if (!hasPlace(tape, i) || !hasPlace(tape, i + k)) {
                return ENDED_EARLY + k;
            }
            if (tapes[tape][i + k] != now.lastOf(k)) {
                return k;
            }
        }
        return NONE_FOUND;
    }

    public int image() {
        kept.takeAll(now);
        imageTaken = true;
        return now.shooters;
    }

    public int undo() {
        if (!imageTaken) {
            return STATE;
        }
        // No call but this takes a shooter away, so the image's own still stand ahead in the array
        now.takeAll(kept);
        return now.shooters;
    }

    public int act(int shooter, int act, int x) {
        ran.clear();
        Shooter one = find(shooter);
        if (one == null) {
            return 0;
        }
        switch (act) {
            case 0:
                return one.aims(x, ran);
            case 1:
                return one.shows(x, ran);
            case 2:
                return one.tells(x, ran);
            default:
                return 0;
        }
    }

    public int trace(int i) {
        return ran.at(i);
    }

    public int taken(int shooter, int k) {
        if (k < 0 || k >= KINDS) {
            return BAD;
        }
        Shooter one = find(shooter);
        if (one == null) {
            return NOTHING;
        }
        return isOfKind(one, k) ? one.kind() : CAST;
    }

    public int count(int what) {
        switch (what) {
            case 0:
                return now.shooters;
            case 1:
                return groundCount;
            case 2:
                return now.line.size;
            case 3:
                return now.seen.size;
            case 4:
                return now.bookShooters.size;
            case 5:
                return text.size;
            case 6:
                return ran.offered;
            default:
                return BAD;
        }
    }

    public int tape(int tape, int sort, int n) {
        if (!isTape(tape)) {
            return NONE;
        }
        if (sort < NONE || sort > BOOLEANS) {
            return BAD;
        }
        if (sort != NONE && n > MOST_ITEMS) {
            return BAD;
        }
        if (sort != NONE && n < 0) {
            return SIZE;
        }
        sorts[tape] = sort;
        sizes[tape] = sort == NONE ? 0 : n;
        Arrays.fill(tapes[tape], 0L);
        return 1;
    }

    public int item(int tape, int i, long v) {
        if (!isTape(tape)) {
            return NONE;
        }
        if (sorts[tape] == NONE) {
            return NOTHING;
        }
        if (!hasPlace(tape, i)) {
            return PLACE;
        }
        tapes[tape][i] = narrowed(sorts[tape], v);
        return 1;
    }

    public long read(int tape, int i) {
        return isTape(tape) && hasPlace(tape, i) ? tapes[tape][i] : NO;
    }

    public int shift(int tape, int i, int other, int j, int n) {
        if (!isTape(tape) || !isTape(other)) {
            return NONE;
        }
        if (sorts[tape] == NONE || sorts[other] == NONE) {
            return NOTHING;
        }
        if (sorts[tape] != sorts[other]) {
            return CAST;
        }
        if (!hasPart(tape, i, n) || !hasPart(other, j, n)) {
            return PLACE;
        }
        System.arraycopy(tapes[tape], i, tapes[other], j, n);
        return n;
    }

    // ---- what the calls above share

    private static boolean isSide(int side) {
        return side >= 0 && side < SIDES;
    }

    private static boolean isDraw(int draw) {
        return draw >= 0 && draw < DRAWS;
    }

    private static boolean isHalf(int what) {
        return what == 0 || what == 1;
    }

    private Shooter find(int number) {
        if (number < 0 || number >= now.shooters || number >= shooters.length) {
            return null;
        }
        return shooters[number];
    }

    private static Shooter newShooter(int kind, int number, int v) {
        switch (kind) {
            case 1:
                return new Turned(number, v);
            case 2:
                return new Steady(number, v);
            case 3:
                return new Waiting(number, v);
            case 4:
                return new Changing(number, v);
            case 5:
                return new Read(number, v);
            case 6:
                return new Told(number, v);
            default:
                return new Shooter(number, v);
        }
    }

    private static boolean isOfKind(Shooter one, int kind) {
        switch (kind) {
            case 0:
                return true;
            case 1:
                return one instanceof Turned;
            case 2:
                return one instanceof Steady;
            case 3:
                return one instanceof Waiting;
            case 4:
                return one instanceof Changing;
            case 5:
                return one instanceof Read;
            case 6:
                return one instanceof Told;
            default:
                return false;
        }
    }

    /** Fills the view with what holds for a shooter as a table stands. */
    private void look(Table at, Shooter one) {
        int holding = now.holding;
        Ground held = holding >= 0 && holding < grounds.length ? grounds[holding] : null;
        if (held == null) {
            view.begin(at.lastOf(one.number));
            view.end(false, false);
        } else {
            held.tell(at, one, view);
        }
    }

    private int seenOf(Shooter one, int what) {
        switch (what) {
            case 5:
                return one.side(view, now);
            case 6:
                return view.note;
            case 10:
            case 11:
            case 12:
                return view.sureOf(what - 10);
            case 20:
            case 21:
            case 22:
                return view.savesOf(what - 20);
            default:
                return NONE;
        }
    }

    private Table supposed() {
        Table would = then[0];
        would.takeRound(now);
        return would;
    }

    private boolean goesAsSeen(Shooter one) {
        Table would = supposed();
        for (int i = 0; i < now.seen.size; i++) {
            look(would, one);
            int side = one.side(view, would);
            if (side != now.seen.at(i)) {
                return false;
            }
            would.addShot(one.number, side, false);
        }
        return true;
    }

    private void reckonLine() {
        for (int i = 0; i < places.length; i++) {
            places[i] = i;
        }
        beginReckoning();
        spread(0, 0, 1);
    }

    private void beginReckoning() {
        Arrays.fill(chances, 0L);
        supposed();
    }

    /** From the k-th of the line on, with so many in already, by so many of the draws so far. */
    private void spread(int k, int in, long weight) {
        if (k < 0 || k >= now.line.size || k >= places.length) {
            if (in >= 0 && in < chances.length) {
                chances[in] += weight;
            }
            return;
        }
        Shooter one = find(now.line.at(places[k]));
        if (one == null || k >= then.length) {
            return;
        }
        look(then[k], one);
        int side = one.side(view, then[k]);
        // Those behind fill the view anew, so what is to be known of it is taken ahead of them
        int chance = view.chanceBy(side, view.note);
        if (chance > 0) {
            goOn(k, one.number, side, true, in + 1, weight * chance);
        }
        if (chance < DRAWS) {
            goOn(k, one.number, side, false, in, weight * (DRAWS - chance));
        }
    }

    /** The k-th shot has been; with it so many are in, and those behind go on from there. */
    private void goOn(int k, int number, int side, boolean isIn, int in, long weight) {
        if (k < 0 || k + 1 >= then.length) {
            return;
        }
        then[k + 1].takeRound(then[k]);
        then[k + 1].addShot(number, side, isIn);
        spread(k + 1, in, weight);
    }

    private void chooseOrder(int n) {
        long greatest = NONE;
        int codes = 1 << 2 * n;
        // Codes go up as rows of places do, so the first that is best stays
        for (int code = 0; code < codes; code++) {
            if (arrange(code, n)) {
                beginReckoning();
                spread(0, 0, 1);
                long chance = moreThanHalf(n);
                if (chance > greatest) {
                    greatest = chance;
                    System.arraycopy(places, 0, bestPlaces, 0, places.length);
                }
            }
        }
    }

    /** Puts the n places of a code, two bits each, into their row; whether each is there once. */
    private boolean arrange(int code, int n) {
        int used = 0;
        for (int k = 0; k < n && k < places.length; k++) {
            int place = code >> 2 * (n - 1 - k) & 3;
            if (place >= n || (used >> place & 1) == 1) {
                return false;
            }
            used |= 1 << place;
            places[k] = place;
        }
        return true;
    }

    private long moreThanHalf(int n) {
        long sum = 0;
        for (int in = 0; in < chances.length; in++) {
            if (2 * in > n) {
                sum += chances[in];
            }
        }
        return sum;
    }

    private void reckonOthers(int q, int n) {
        Arrays.fill(others, 0L);
        others[0] = 1;
        for (int i = 0; i < n; i++) {
            for (int in = others.length - 1; in > 0; in--) {
                others[in] = others[in] * (DRAWS - q) + others[in - 1] * q;
            }
            others[0] *= DRAWS - q;
        }
    }

    private static long hundreds(int n) {
        long product = 1;
        for (int i = 0; i < n; i++) {
            product *= DRAWS;
        }
        return product;
    }

    private static long lowest(long above, long below, int part) {
        long a = above;
        long b = below;
        for (int i = 0; i < 1000 && b != 0; i++) {
            long rest = a % b;
            a = b;
            b = rest;
        }
        if (a == 0) {
            return NO;
        }
        return (part == 0 ? above : below) / a;
    }

    private boolean isTape(int tape) {
        return tape >= 0 && tape < tapes.length && tape < sorts.length && tape < sizes.length;
    }

    private boolean hasPlace(int tape, int i) {
        return i >= 0 && i < sizes[tape] && i < tapes[tape].length;
    }

    private boolean hasPart(int tape, int i, int n) {
        return n >= 0 && i >= 0 && n <= sizes[tape] && i <= sizes[tape] - n;
    }

    private static long narrowed(int sort, long v) {
        switch (sort) {
            case BYTES:
                return (byte) v;
            case SHORTS:
                return (short) v;
            case INTS:
                return (int) v;
            case BOOLEANS:
                return v != 0 ? 1 : 0;
            case LONGS:
            default:
                return v;
        }
    }

    /** SHOOTER; the kinds under it override where they go and what they do. */
    private static class Shooter {
        final int number;
        final int v;

        Shooter(int number, int v) {
            this.number = number;
            this.v = v;
        }

        int kind() {
            return 0;
        }

        /** AIM, as the view and the table tell. */
        int side(View view, Table at) {
            return v % SIDES;
        }

        int aims(int x, Row ran) {
            ran.add(10);
            return x + number;
        }

        int shows(int x, Row ran) {
            ran.add(11);
            return aims(x, ran) - v;
        }

        int tells(int x, Row ran) {
            ran.add(12);
            return shows(x, ran) * 2;
        }
    }

    private static class Turned extends Shooter {
        Turned(int number, int v) {
            super(number, v);
        }

        int kind() {
            return 1;
        }

        int side(View view, Table at) {
            int last = at.lastOf(number);
            return last == MIDDLE || last == NO_LAST ? super.side(view, at) : RIGHT - last;
        }

        int shows(int x, Row ran) {
            ran.add(20);
            return super.shows(x, ran) ^ 6;
        }
    }

    private static class Steady extends Shooter {
        Steady(int number, int v) {
            super(number, v);
        }

        int kind() {
            return 2;
        }

        int side(View view, Table at) {
            int last = at.lastOf(number);
            return last == NO_LAST ? super.side(view, at) : last;
        }

        int aims(int x, Row ran) {
            ran.add(30);
            return super.aims(x * 3, ran);
        }
    }

    private static class Waiting extends Shooter {
        Waiting(int number, int v) {
            super(number, v);
        }

        int kind() {
            return 3;
        }

        int side(View view, Table at) {
            return view.sideAway();
        }

        int tells(int x, Row ran) {
            ran.add(40);
            int above = super.tells(x, ran);
            return above + shows(1, ran);
        }
    }

    private static final class Changing extends Turned {
        Changing(int number, int v) {
            super(number, v);
        }

        int kind() {
            return 4;
        }

        int side(View view, Table at) {
            return at.shotsOf(number) % 2 == 0 ? super.side(view, at) : MIDDLE;
        }

        int aims(int x, Row ran) {
            ran.add(50);
            return -super.aims(x, ran);
        }

        int shows(int x, Row ran) {
            ran.add(51);
            return super.shows(x + 1, ran);
        }
    }

    private static final class Read extends Steady {
        private static final int UNREAD = 3;

        Read(int number, int v) {
            super(number, v);
        }

        int kind() {
            return 5;
        }

        int side(View view, Table at) {
            int steady = super.side(view, at);
            return at.shotsOf(number) < UNREAD ? steady : RIGHT - steady;
        }

        int tells(int x, Row ran) {
            ran.add(60);
            return super.tells(x - number, ran);
        }
    }

    private static final class Told extends Waiting {
        Told(int number, int v) {
            super(number, v);
        }

        int kind() {
            return 6;
        }

        int side(View view, Table at) {
            if (view.note != MIDDLE) {
                return super.side(view, at);
            }
            return at.toldOf(number, at.shotsOf(number) % TOLD_PARTS);
        }

        int shows(int x, Row ran) {
            ran.add(70);
            int above = super.shows(x, ran);
            return above + super.aims(2, ran);
        }

        int aims(int x, Row ran) {
            ran.add(71);
            return super.aims(x, ran) ^ v;
        }
    }

    /** What the ground that holds tells of one shooter: SURE, SAVES, and the NOTE's side. */
    private static final class View {
        private static final int PLAIN_SURE = 80, PLAIN_SAVES = 40, MOST = 100;

        private final int[] sure;
        private final int[] saves;
        int note;

        View() {
            sure = new int[SIDES];
            saves = new int[SIDES];
        }

        void begin(int last) {
            Arrays.fill(sure, 0);
            Arrays.fill(saves, 0);
            note = last == NO_LAST ? MIDDLE : last;
        }

        void addSure(int sides, int n) {
            addTo(sure, sides, n);
        }

        void addSaves(int sides, int n) {
            addTo(saves, sides, n);
        }

        private static void addTo(int[] sums, int sides, int n) {
            for (int side = 0; side < sums.length; side++) {
                if ((sides >> side & 1) == 1) {
                    sums[side] = Math.min(MOST, sums[side] + n);
                }
            }
        }

        void end(boolean anyIn, boolean anySave) {
            if (!anyIn) {
                Arrays.fill(sure, PLAIN_SURE);
            }
            if (!anySave) {
                Arrays.fill(saves, PLAIN_SAVES);
            }
        }

        int sureOf(int side) {
            return side >= 0 && side < sure.length ? sure[side] : 0;
        }

        int savesOf(int side) {
            return side >= 0 && side < saves.length ? saves[side] : 0;
        }

        int chanceBy(int side, int dive) {
            return side == dive ? Math.max(0, sureOf(side) - savesOf(side)) : sureOf(side);
        }

        int bestSide() {
            int best = LEFT;
            for (int side = MIDDLE; side < SIDES; side++) {
                if (chanceBy(side, note) > chanceBy(best, note)) {
                    best = side;
                }
            }
            return best;
        }

        /** Where WAITING goes. */
        int sideAway() {
            int best = note == LEFT ? MIDDLE : LEFT;
            for (int side = best + 1; side < SIDES; side++) {
                if (side != note && sureOf(side) > sureOf(best)) {
                    best = side;
                }
            }
            return best;
        }

        int leastSum(int l, int m, int r) {
            int byLeft = sum(l, m, r, LEFT);
            int byMiddle = sum(l, m, r, MIDDLE);
            int byRight = sum(l, m, r, RIGHT);
            return Math.min(byLeft, Math.min(byMiddle, byRight));
        }

        private int sum(int l, int m, int r, int dive) {
            return l * chanceBy(LEFT, dive) + m * chanceBy(MIDDLE, dive) + r * chanceBy(RIGHT, dive);
        }
    }

    /** All that THE IMAGE holds, but for the shooters' kinds and numbers, which never change. */
    private static final class Table {
        int shooters;
        int holding;
        int shots;
        int goals;
        private final int[] lasts;
        private final int[] ownShots;
        private final int[] ownGoals;
        private final int[] toldSides;
        final Row line;
        final Row seen;
        final Row bookShooters;
        final Row bookDraws;

        Table() {
            holding = NONE;
            lasts = new int[MOST_SHOOTERS];
            Arrays.fill(lasts, NO_LAST);
            ownShots = new int[MOST_SHOOTERS];
            ownGoals = new int[MOST_SHOOTERS];
            toldSides = new int[MOST_SHOOTERS * TOLD_PARTS];
            line = new Row(MOST_LINE);
            seen = new Row(MOST_SEEN);
            bookShooters = new Row(MOST_BOOK);
            bookDraws = new Row(MOST_BOOK);
        }

        /**
         * What shots change and what they hang on. Those who are not there come along: their places
         * are as at first in every table, so that a shooter who comes after undo() finds them so.
         */
        void takeRound(Table from) {
            shots = from.shots;
            goals = from.goals;
            System.arraycopy(from.lasts, 0, lasts, 0, lasts.length);
            System.arraycopy(from.ownShots, 0, ownShots, 0, ownShots.length);
            System.arraycopy(from.ownGoals, 0, ownGoals, 0, ownGoals.length);
            System.arraycopy(from.toldSides, 0, toldSides, 0, toldSides.length);
        }

        void takeAll(Table from) {
            takeRound(from);
            shooters = from.shooters;
            holding = from.holding;
            line.takeAll(from.line);
            seen.takeAll(from.seen);
            bookShooters.takeAll(from.bookShooters);
            bookDraws.takeAll(from.bookDraws);
        }

        int lastOf(int number) {
            return number >= 0 && number < lasts.length ? lasts[number] : NO_LAST;
        }

        void setLast(int number, int side) {
            if (number >= 0 && number < lasts.length) {
                lasts[number] = side;
            }
        }

        int shotsOf(int number) {
            return number >= 0 && number < ownShots.length ? ownShots[number] : 0;
        }

        int goalsOf(int number) {
            return number >= 0 && number < ownGoals.length ? ownGoals[number] : 0;
        }

        int toldOf(int number, int part) {
            int place = number * TOLD_PARTS + part;
            return place >= 0 && place < toldSides.length ? toldSides[place] : LEFT;
        }

        void setTold(int number, int part, int side) {
            int place = number * TOLD_PARTS + part;
            if (place >= 0 && place < toldSides.length) {
                toldSides[place] = side;
            }
        }

        void addShot(int number, int side, boolean in) {
            if (number < 0 || number >= lasts.length) {
                return;
            }
            lasts[number] = side;
            ownShots[number] = Math.min(CEILING, ownShots[number] + 1);
            shots = Math.min(CEILING, shots + 1);
            if (in) {
                ownGoals[number] = Math.min(CEILING, ownGoals[number] + 1);
                goals = Math.min(CEILING, goals + 1);
            }
        }
    }

    /** A row of numbers with an upper bound. */
    private static final class Row {
        private final int[] items;
        int size;
        /** How many came, those that found no room too. */
        int offered;

        Row(int most) {
            items = new int[Math.max(0, most)];
        }

        boolean add(int item) {
            offered++;
            if (size < 0 || size >= items.length) {
                return false;
            }
            items[size] = item;
            size++;
            return true;
        }

        int clear() {
            offered = 0;
            size = 0;
            return 0;
        }

        /** The item at a place, or NONE; no row holds anything below 0. */
        int at(int i) {
            return i >= 0 && i < size && i < items.length ? items[i] : NONE;
        }

        void takeAll(Row from) {
            System.arraycopy(from.items, 0, items, 0, Math.min(items.length, from.items.length));
            size = from.size;
            offered = from.offered;
        }
    }

    /** A ground: its clauses, each with a condition as a row of steps in the order they are done. */
    private static final class Ground {
        private static final int IN = 0, SAVE = 1, WORD_LEFT = 2, WORD_RIGHT = 3, WORDS = 5;
        private static final int AND = -1, OR = -2, NOT = -3;
        private static final int SIDE_LETTER = 2, ALL = 15, WIDTH = 4;
        private static final String LETTERS = "pksnga", RELATIONS = "<=>";

        private final int[] words;
        private final int[] amounts;
        private final int[] starts;
        private final int[] ends;
        private int clauses;
        private final int[] steps;
        private int stepCount;
        private int place;
        /** What each letter stands for, but for s. */
        private final int[] values;

        Ground() {
            words = new int[MOST_CLAUSES];
            amounts = new int[MOST_CLAUSES];
            starts = new int[MOST_CLAUSES];
            ends = new int[MOST_CLAUSES];
            steps = new int[MOST_TEXT];
            values = new int[6];
        }

        /** Reads a text: NONE if it is a ground, else the place of the fault. */
        int parse(Row text) {
            clauses = 0;
            stepCount = 0;
            place = 0;
            for (int c = 0; c < MOST_CLAUSES; c++) {
                if (!clause(text, c)) {
                    return place;
                }
                clauses = c + 1;
                if (place >= text.size) {
                    return NONE;
                }
                if (text.at(place) != ';') {
                    return place;
                }
                // The one behind the last clause that may be is a fault itself
                if (c < MOST_CLAUSES - 1) {
                    place++;
                }
            }
            return place;
        }

        private boolean clause(Row text, int c) {
            int word = word(text);
            if (word == NONE || c < 0 || c >= words.length) {
                return false;
            }
            int amount = 0;
            if (word == IN || word == SAVE) {
                amount = skip(text, ' ') ? number(text) : NONE;
            }
            if (amount == NONE || !skip(text, ' ')) {
                return false;
            }
            words[c] = word;
            amounts[c] = amount;
            starts[c] = stepCount;
            boolean whole = either(text, 0);
            ends[c] = stepCount;
            return whole;
        }

        private int word(Row text) {
            int farthest = 0;
            for (int w = 0; w < WORDS; w++) {
                String spelling = spelling(w);
                int alike = alike(text, spelling);
                if (alike == spelling.length()) {
                    place += alike;
                    return w;
                }
                farthest = Math.max(farthest, alike);
            }
            place += farthest;
            return NONE;
        }

        private static String spelling(int word) {
            switch (word) {
                case IN:
                    return "in";
                case SAVE:
                    return "save";
                case WORD_LEFT:
                    return "left";
                case WORD_RIGHT:
                    return "right";
                default:
                    return "stay";
            }
        }

        private int alike(Row text, String spelling) {
            int n = 0;
            while (n < spelling.length() && text.at(place + n) == spelling.charAt(n)) {
                n++;
            }
            return n;
        }

        private boolean skip(Row text, char sign) {
            if (text.at(place) != sign) {
                return false;
            }
            place++;
            return true;
        }

        private int number(Row text) {
            if (!isDigit(text.at(place))) {
                return NONE;
            }
            int value = text.at(place) - '0';
            place++;
            if (isDigit(text.at(place))) {
                value = 10 * value + text.at(place) - '0';
                place++;
            }
            return value;
        }

        private static boolean isDigit(int sign) {
            return sign >= '0' && sign <= '9';
        }

        /** E: as | joins whatever stands on its sides, the left two are joined first. */
        private boolean either(Row text, int depth) {
            boolean whole = both(text, depth);
            for (int i = 0; i < MOST_TEXT && whole && skip(text, '|'); i++) {
                whole = both(text, depth) && addStep(OR);
            }
            return whole;
        }

        private boolean both(Row text, int depth) {
            boolean whole = unit(text, depth);
            for (int i = 0; i < MOST_TEXT && whole && skip(text, '&'); i++) {
                whole = unit(text, depth) && addStep(AND);
            }
            return whole;
        }

        private boolean unit(Row text, int depth) {
            if (depth < MOST_NESTED && skip(text, '!')) {
                return negated(text, depth + 1);
            }
            if (depth < MOST_NESTED && skip(text, '(')) {
                return either(text, depth + 1) && skip(text, ')');
            }
            int letter = oneOf(text, LETTERS);
            int relation = letter == NONE ? NONE : oneOf(text, RELATIONS);
            int number = relation == NONE ? NONE : number(text);
            return number != NONE && addStep((letter * 3 + relation) * 100 + number);
        }

        private boolean negated(Row text, int depth) {
            return unit(text, depth) && addStep(NOT);
        }

        private int oneOf(Row text, String signs) {
            int sign = text.at(place);
            if (sign < 0) {
                return NONE;
            }
            int which = signs.indexOf((char) sign);
            if (which >= 0) {
                place++;
            }
            return which;
        }

        private boolean addStep(int step) {
            if (stepCount < 0 || stepCount >= steps.length) {
                return false;
            }
            steps[stepCount] = step;
            stepCount++;
            return true;
        }

        void tell(Table at, Shooter one, View view) {
            int last = at.lastOf(one.number);
            setValues(at, one);
            view.begin(last);
            boolean anyIn = false;
            boolean anySave = false;
            boolean noted = false;
            for (int c = 0; c < clauses && c < words.length; c++) {
                int sides = holds(starts[c], ends[c]);
                if (words[c] == IN) {
                    anyIn = true;
                    view.addSure(sides, amounts[c]);
                } else if (words[c] == SAVE) {
                    anySave = true;
                    view.addSaves(sides, amounts[c]);
                } else if (!noted && (sides >> last & 1) == 1) {
                    noted = true;
                    view.note = sideOf(words[c]);
                }
            }
            view.end(anyIn, anySave);
        }

        private void setValues(Table at, Shooter one) {
            values[0] = one.number;
            values[1] = one.kind();
            values[3] = at.shotsOf(one.number) % 10;
            values[4] = at.goals % 10;
            values[5] = at.shots % 10;
        }

        private static int sideOf(int word) {
            if (word == WORD_LEFT) {
                return LEFT;
            }
            return word == WORD_RIGHT ? RIGHT : MIDDLE;
        }

        /**
         * By which s from 0 to 3 a condition holds, a bit each: so one pass does for all sides and for
         * every LAST. The stack is a long with four bits for an entry: at most two wait at each of five
         * depths, so sixteen entries are enough.
         */
        private int holds(int from, int to) {
            long stack = 0;
            for (int i = Math.max(0, from); i < to && i < steps.length; i++) {
                long top = stack & ALL;
                switch (steps[i]) {
                    case AND:
                        stack = stack >>> WIDTH & (top | ~(long) ALL);
                        break;
                    case OR:
                        stack = stack >>> WIDTH | top;
                        break;
                    case NOT:
                        stack = stack ^ ALL;
                        break;
                    default:
                        stack = stack << WIDTH | tested(steps[i]);
                        break;
                }
            }
            return (int) (stack & ALL);
        }

        private int tested(int step) {
            int number = step % 100;
            int relation = step / 100 % 3;
            int letter = step / 300;
            if (letter != SIDE_LETTER) {
                int value = letter >= 0 && letter < values.length ? values[letter] : 0;
                return compared(value, relation, number) ? ALL : 0;
            }
            int sides = 0;
            for (int s = 0; s <= NO_LAST; s++) {
                if (compared(s, relation, number)) {
                    sides |= 1 << s;
                }
            }
            return sides;
        }

        private static boolean compared(int value, int relation, int number) {
            if (relation == 0) {
                return value < number;
            }
            return relation == 1 ? value == number : value > number;
        }
    }
}
