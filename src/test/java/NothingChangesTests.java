import java.io.IOException;
import java.util.ArrayList;
import java.util.List;
import java.util.function.Supplier;
import java.util.function.ToLongFunction;

/**
 * "What is answered so changes nothing; what is asked changes nothing." Two objects are brought to where they
 * stand alike, one of them is called, and then both must answer alike to all that can be asked and done.
 */
public final class NothingChangesTests {
    private static final int NONE = -1, BAD = -2, STATE = -3, FULL = -4;
    private static final int NOTHING = -11, CAST = -12, PLACE = -13, SIZE = -14;
    private static final long NO = Long.MIN_VALUE;
    private static final int MAX = Integer.MAX_VALUE, MIN = Integer.MIN_VALUE;

    private final Sheet sheet = new Sheet();
    private Supplier<FootKeeper> made = FootKeeper::new;

    private NothingChangesTests() throws IOException {
    }

    /** Three shooters, two grounds, an image that is older than all that is now, a text that lacks its end. */
    static FootKeeper some() {
        FootKeeper x = Sheet.with("in 44 p<9;left s=2", 2, 0, 6, 7);
        Sheet.tape(x, 0, 0, 2, 3, 3);
        Sheet.tape(x, 1, 3, 5, 6, 7, 8);
        Sheet.tape(x, 2, 0, 9, 9);
        x.line(1);
        x.see(1);
        x.book(0, 12);
        x.shoot(1, 0);
        x.image();
        x.shooter(5, 8);
        Sheet.ground(x, "in 60 g<2;in 33 g>1;save 15 s>0;stay n=1;right a=7");
        x.row(1, 1, 2);
        x.row(1, 3, 1);
        x.shoot(0, 0);
        x.shoot(2, 99);
        x.shoot(1, 20);
        Sheet.line(x, 2, 0);
        Sheet.see(x, 0, 2);
        x.book(1, 30);
        x.book(2, 90);
        x.act(1, 2, 5);
        Sheet.feed(x, "in 7 p<");
        return x;
    }

    /** All that can be asked, as an object stands. */
    private static List<Long> asked(FootKeeper x) {
        List<Long> all = new ArrayList<>();
        for (int i = 0; i < 6; i++) {
            for (int what = 0; what < 7; what++) {
                all.add((long) x.of(i, what));
            }
            all.add((long) x.of(i, 10));
            all.add((long) x.of(i, 22));
            all.add((long) x.forget(i, 0));
            all.add((long) x.caught(i, 7));
            for (int k = 0; k < 10; k++) {
                all.add(x.read(i, k));
            }
        }
        for (int i = 0; i < 13; i++) {
            all.add((long) x.trace(i));
            all.add((long) x.count(i));
        }
        for (int i = 0; i < 5; i++) {
            all.add((long) x.told(i));
            all.add(x.likely(i, 0));
            all.add((long) x.order(i));
        }
        all.add(x.win(37, 0, 0));
        all.add(x.mean(0));
        all.add((long) x.who());
        all.add((long) x.looked());
        return all;
    }

    /** What there is of the ROWs, and how many come to what may be full. */
    private static List<Long> done(FootKeeper x) {
        List<Long> all = new ArrayList<>();
        for (int i = 0; i < 6; i++) {
            for (int part = 0; part < 4; part++) {
                all.add((long) x.row(i, part, 1));
            }
        }
        all.add((long) x.line(0));
        all.add((long) x.see(0));
        all.add((long) x.book(0, 0));
        all.add((long) x.feed('9'));
        all.add((long) x.ground());
        all.add((long) x.of(0, 10));
        all.add((long) x.shooter(4, 4));
        all.add((long) x.image());
        all.add((long) x.anew());
        return all;
    }

    private static List<Long> undone(FootKeeper x) {
        List<Long> all = new ArrayList<>();
        all.add((long) x.undo());
        all.addAll(asked(x));
        return all;
    }

    private void unchanged(String call, long want, ToLongFunction<FootKeeper> what) {
        for (int way = 0; way < 3; way++) {
            FootKeeper x = made.get();
            FootKeeper y = made.get();
            sheet.due(call, what.applyAsLong(x), want);
            List<Long> of = way == 0 ? asked(x) : way == 1 ? done(x) : undone(x);
            List<Long> as = way == 0 ? asked(y) : way == 1 ? done(y) : undone(y);
            sheet.due(call + " changed nothing", of.equals(as) ? 0 : 1, 0);
        }
    }

    private void refusedOfShooters() {
        for (int no : new int[] {-1, 3, MAX, MIN}) {
            unchanged("last", NONE, x -> x.last(no, 1));
            unchanged("row", NONE, x -> x.row(no, 1, 1));
            unchanged("shoot", NONE, x -> x.shoot(no, 1));
            unchanged("of", NONE, x -> x.of(no, 0));
            unchanged("chance", NONE, x -> x.chance(no, 0, 0));
            unchanged("best", NONE, x -> x.best(no, 0));
            unchanged("mix", NONE, x -> x.mix(no, 0));
            unchanged("worth", -1001, x -> x.worth(no));
            unchanged("stop", -1001, x -> x.stop(no));
            unchanged("forget", NONE, x -> x.forget(no, 0));
            unchanged("caught", NONE, x -> x.caught(no, 1));
            unchanged("odds", NO, x -> x.odds(no, 0));
            unchanged("taken", NOTHING, x -> x.taken(no, 0));
            if (no != -1) {
                unchanged("line", NONE, x -> x.line(no));
                unchanged("book", NONE, x -> x.book(no, 1));
            }
        }
    }

    private void refusedOfOthers() {
        for (int no : new int[] {-2, 7, MAX, MIN}) {
            unchanged("shooter, kind", NONE, x -> x.shooter(no, 0));
            unchanged("last, side", NONE, x -> x.last(0, no));
            unchanged("row, part", NONE, x -> x.row(1, no, 0));
            unchanged("see", NONE, x -> x.see(no));
            unchanged("taken, k", BAD, x -> x.taken(0, no));
            unchanged("count", BAD, x -> x.count(no));
            unchanged("trace", NONE, x -> x.trace(no == 7 ? 20 : no));
            unchanged("order", NONE, x -> x.order(no));
            unchanged("likely", NO, x -> x.likely(no, 0));
            unchanged("win", NO, x -> x.win(50, no, 0));
            unchanged("mean", NO, x -> x.mean(no));
            unchanged("tape", NONE, x -> x.tape(no, 0, 1));
            unchanged("tape, sort", BAD, x -> x.tape(0, no, 1));
            unchanged("item", NONE, x -> x.item(no, 0, 1));
            unchanged("item, place", PLACE, x -> x.item(0, no, 1));
            unchanged("judge", NONE, x -> x.judge(no, 0));
            unchanged("shift", NONE, x -> x.shift(no, 0, 0, 0, 1));
            unchanged("shift, other", NONE, x -> x.shift(0, 0, no, 0, 1));
            unchanged("shift, i", PLACE, x -> x.shift(0, no, 2, 0, 1));
            unchanged("shift, j", PLACE, x -> x.shift(0, 0, 2, no, 1));
            unchanged("shift, n", PLACE, x -> x.shift(0, 0, 2, 0, no));
        }
        for (int no : new int[] {-1, 128, MAX, MIN}) {
            unchanged("feed", BAD, x -> x.feed(no));
            unchanged("shooter, v", BAD, x -> x.shooter(6, no));
            unchanged("row, n", BAD, x -> x.row(1, 1, no));
            unchanged("shoot, draw", BAD, x -> x.shoot(0, no));
            unchanged("book, draw", BAD, x -> x.book(0, no));
            unchanged("caught, n", BAD, x -> x.caught(0, no));
        }
        unchanged("row, KIND", STATE, x -> x.row(0, 1, 1));
        unchanged("tape, n", BAD, x -> x.tape(0, 0, 61));
        unchanged("tape, size", SIZE, x -> x.tape(0, 0, -1));
        unchanged("item, nothing", NOTHING, x -> x.item(3, 0, 1));
        unchanged("shift, nothing", NOTHING, x -> x.shift(0, 0, 3, 0, 1));
        unchanged("shift, sorts", CAST, x -> x.shift(0, 0, 1, 0, 1));
        unchanged("shift, just beyond", PLACE, x -> x.shift(0, 1, 2, 0, 3));
        unchanged("shift, just beyond the other", PLACE, x -> x.shift(0, 0, 2, 1, 2));
    }

    private void refusedAsFull() {
        unchanged("shooter", FULL, x -> x.shooter(6, 1));
        unchanged("feed", FULL, x -> x.feed('p'));
        unchanged("ground", FULL, x -> x.ground());
        unchanged("line", FULL, x -> x.line(5));
        unchanged("see", FULL, x -> x.see(1));
        unchanged("book", FULL, x -> x.book(1, 1));
    }

    private void faulty() {
        FootKeeper x = some();
        FootKeeper y = some();
        sheet.due("ground", x.ground(), -17);
        sheet.due("THE TEXT is empty", x.count(5), 0);
        Sheet.feed(x, "in 7 p<");
        sheet.due("all else is as it was", asked(x).equals(asked(y)) ? 0 : 1, 0);
        sheet.due("what can be done, too", done(x).equals(done(y)) ? 0 : 1, 0);
    }

    private void refusedAct() {
        for (int no : new int[] {-1, 3, MAX, MIN}) {
            made = () -> {
                FootKeeper x = some();
                x.act(-1, 0, 0);
                return x;
            };
            unchanged("act", 0, x -> x.act(no, 0, 1));
            unchanged("act", 0, x -> x.act(0, no, 1));
        }
    }

    /** What is asked of each of three shooters, and what else there is to ask. */
    private void askedOnly() {
        FootKeeper same = some();
        for (int i = 0; i < 3; i++) {
            int one = i;
            for (int what : new int[] {0, 2, 5, 6, 10, 22, 23}) {
                unchanged("of", same.of(one, what), x -> x.of(one, what));
            }
            unchanged("chance", same.chance(one, 1, 1), x -> x.chance(one, 1, 1));
            for (int what = 0; what < 3; what++) {
                int half = what;
                unchanged("best", same.best(one, half), x -> x.best(one, half));
                unchanged("mix", same.mix(one, half), x -> x.mix(one, half));
                unchanged("forget", same.forget(one, half), x -> x.forget(one, half));
                unchanged("odds", same.odds(one, half), x -> x.odds(one, half));
            }
            unchanged("worth", same.worth(one), x -> x.worth(one));
            unchanged("stop", same.stop(one), x -> x.stop(one));
            unchanged("caught", same.caught(one, 20), x -> x.caught(one, 20));
            for (int k = 0; k < 7; k++) {
                int kind = k;
                unchanged("taken", same.taken(one, kind), x -> x.taken(one, kind));
            }
        }
        for (int i = 0; i < 5; i++) {
            int k = i;
            unchanged("told", same.told(k), x -> x.told(k));
            unchanged("likely", same.likely(k, 0), x -> x.likely(k, 0));
            unchanged("order", same.order(k), x -> x.order(k));
            unchanged("win", same.win(20 * k, k % 2, k / 2), x -> x.win(20 * k, k % 2, k / 2));
            unchanged("mean", same.mean(k), x -> x.mean(k));
            unchanged("judge", same.judge(k, k), x -> x.judge(k, k));
            unchanged("trace", same.trace(5 * k), x -> x.trace(5 * k));
            unchanged("count", same.count(k + 2), x -> x.count(k + 2));
            unchanged("read", same.read(k, k), x -> x.read(k, k));
        }
        unchanged("who", same.who(), x -> x.who());
        unchanged("looked", same.looked(), x -> x.looked());
    }

    /** What an act, a tape or an image changes is no more than what is told of it. */
    private void others() {
        made = () -> {
            FootKeeper x = some();
            x.act(2, 1, 3);
            return x;
        };
        unchanged("the same act again", some().act(2, 1, 3), x -> x.act(2, 1, 3));
        made = NothingChangesTests::some;
        unchanged("LAST as it is", some().of(0, 2), x -> x.last(0, x.of(0, 2)));
        unchanged("a ROW's part as it is", 2, x -> x.row(1, 1, 2));
        unchanged("a TAPE onto itself", 3, x -> x.shift(0, 0, 0, 0, 3));
        unchanged("an item as it is", 1, x -> x.item(0, 0, 2));
        made = () -> {
            FootKeeper x = some();
            x.image();
            return x;
        };
        unchanged("a second image", 3, x -> x.image());
        unchanged("undo at once", 3, x -> x.undo());
    }

    private void all() {
        String words = "What is answered so changes nothing;";
        made = NothingChangesTests::some;
        sheet.test("Terms", words, this::refusedOfShooters);
        sheet.test("Terms", words, this::refusedOfOthers);
        sheet.test("Terms", "what is asked changes nothing.", this::askedOnly);
        sheet.test("Promise 30", "All is as THE IMAGE", this::others);
        made = HostTests::full;
        sheet.test("Terms", words, this::refusedAsFull);
        made = () -> Sheet.with("", 0, 0);
        sheet.test("Promise 30", "STATE: there is none.", () -> unchanged("undo", STATE, x -> x.undo()));
        sheet.test("Promise 7", "-10 less the FAULT (the one that held holds).", this::faulty);
        sheet.test("Promise 31", "0, and no TRACE then: no such SHOOTER, act.", this::refusedAct);
    }

    public static void main(String[] args) throws IOException {
        NothingChangesTests t = new NothingChangesTests();
        t.all();
        t.sheet.end();
    }
}
