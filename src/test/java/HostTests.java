import java.io.IOException;

/** For each sentence of the third part of 'Terms' (tapes, judging, refusals and their order) a test of its own. */
public final class HostTests {
    private static final int NONE = -1, BAD = -2, STATE = -3, FULL = -4;
    private static final int NOTHING = -11, CAST = -12, PLACE = -13, SIZE = -14;
    private static final long NO = Long.MIN_VALUE;
    private static final int MAX = Integer.MAX_VALUE, MIN = Integer.MIN_VALUE;

    private final Sheet sheet = new Sheet();

    private HostTests() throws IOException {
    }

    private void term(String words, Runnable test) {
        sheet.test("Terms", words, test);
    }

    private void tapes() {
        term("TAPES 0 .. 5 hold nothing (at first)", () -> {
            FootKeeper x = new FootKeeper();
            for (int tape = 0; tape < 6; tape++) {
                sheet.due("item of " + tape, x.item(tape, 0, 1), NOTHING);
                sheet.due("read of " + tape, x.read(tape, 0), NO);
                sheet.due("shift of " + tape, x.shift(tape, 0, tape, 0, 0), NOTHING);
                sheet.due("tape " + tape, x.tape(tape, tape % 5, tape), 1);
            }
            for (int tape : new int[] {-1, 6, MAX, MIN}) {
                sheet.due("tape " + tape, x.tape(tape, 0, 1), NONE);
                sheet.due("item of " + tape, x.item(tape, 0, 1), NONE);
                sheet.due("judge of " + tape, x.judge(tape, 0), NONE);
                sheet.due("shift of " + tape, x.shift(tape, 0, 1, 0, 0), NONE);
                sheet.due("shift to " + tape, x.shift(1, 0, tape, 0, 0), NONE);
                sheet.due("read of " + tape, x.read(tape, 0), NO);
            }
        });
        term("a row of 0 bytes,", () -> sorted(0, new long[] {127, 128, 255, 256, -128, -129, -256, 0x7FFFFFFFFFFFFF80L},
                127, -128, -1, 0, -128, 127, 0, -128));
        term("1 shorts,", () -> sorted(1, new long[] {32767, 32768, 65535, 65536, -32768, -32769, 128, 1L << 40},
                32767, -32768, -1, 0, -32768, 32767, 128, 0));
        term("2 ints,", () -> sorted(2, new long[] {MAX, 1L + MAX, (1L << 32) - 1, 1L << 32, MIN, MIN - 1L, 65536, NO},
                MAX, MIN, -1, 0, MIN, MAX, 65536, 0));
        term("3 longs,", () -> sorted(3, new long[] {Long.MAX_VALUE, Long.MIN_VALUE + 1, -1, 1L << 32, 0, 1},
                Long.MAX_VALUE, Long.MIN_VALUE + 1, -1, 1L << 32, 0, 1));
        term("4 booleans (items 0, 1).", () -> sorted(4, new long[] {0, 1, 2, -1, 256, 1L << 32, Long.MIN_VALUE, 0},
                0, 1, 1, 1, 1, 1, 1, 0));
    }

    /** Items become what the sort keeps of them. */
    private void sorted(int sort, long[] items, long... want) {
        FootKeeper x = new FootKeeper();
        Sheet.tape(x, 3, sort, items);
        sheet.dueAll("sort " + sort, Sheet.items(x, 3, items.length), want);
        sheet.due("behind the last", x.read(3, items.length), NO);
    }

    private void judging() {
        term("LAST sides told by a row of bytes, from a place on, SHOOTER by SHOOTER, are JUDGED: the first that is otherwise;",
                () -> {
            FootKeeper x = judged();
            Sheet.tape(x, 0, 0, 2, 0, 3, 9);
            sheet.due("not the first", x.judge(0, 1), 0);
            for (int i = 0; i < 3; i++) {
                Sheet.tape(x, 1, 0, i == 0 ? 1 : 2, i == 1 ? 3 : 0, i == 2 ? 2 : 3);
                sheet.due("otherwise at " + i, x.judge(1, 0), i);
            }
            Sheet.tape(x, 1, 0, 9, 9, 2, 0, 1);
            sheet.due("from place 2 on", x.judge(1, 2), 2);
            Sheet.tape(x, 1, 0, 2, 1);
            sheet.due("ahead of the row's end", x.judge(1, 0), 1);
            Sheet.tape(x, 1, 0, 258, 256, 259);
            sheet.due("by what a byte keeps", x.judge(1, 0), -5);
        });
        term("-5: none, or there is none to look at;", () -> {
            FootKeeper x = judged();
            Sheet.tape(x, 0, 0, 2, 0, 3, 9);
            sheet.due("none is otherwise", x.judge(0, 0), -5);
            Sheet.tape(x, 0, 0, 9, 2, 0, 3);
            sheet.due("none is otherwise, up to the end", x.judge(0, 1), -5);
            FootKeeper y = new FootKeeper();
            sheet.due("nobody, a TAPE that holds nothing", y.judge(0, 0), -5);
            Sheet.tape(y, 0, 0, 1, 2);
            for (int place : new int[] {0, 1, 2, -1, MAX, MIN}) {
                sheet.due("nobody, place " + place, y.judge(0, place), -5);
            }
            Sheet.tape(y, 0, 0);
            sheet.due("nobody, no bytes", y.judge(0, 0), -5);
        });
        term("100 and how many were looked at, if the row ends ahead of that", () -> {
            FootKeeper x = judged();
            Sheet.tape(x, 0, 0, 2, 0);
            sheet.due("two", x.judge(0, 0), 102);
            sheet.due("none", x.judge(0, 2), 100);
            sheet.due("none, behind the end", x.judge(0, 3), 100);
            sheet.due("none, far behind the end", x.judge(0, MAX), 100);
            Sheet.tape(x, 0, 0, 2);
            sheet.due("one", x.judge(0, 0), 101);
            Sheet.tape(x, 0, 0);
            sheet.due("an empty row", x.judge(0, 0), 100);
            FootKeeper y = Sheet.with("", 0, 0, 0, 0, 0, 0, 0, 0, 0, 0, 0, 0);
            Sheet.tape(y, 0, 0, 3, 3, 3, 3, 3);
            sheet.due("five", y.judge(0, 0), 105);
        });
        term("(or the place is below 0, or the TAPE holds nothing).", () -> {
            FootKeeper x = judged();
            Sheet.tape(x, 0, 0, 2, 0, 3);
            sheet.due("place -1", x.judge(0, -1), 100);
            sheet.due("place far below", x.judge(0, MIN), 100);
            sheet.due("nothing", x.judge(1, 0), 100);
            sheet.due("nothing, place -1", x.judge(1, -1), 100);
            x.tape(0, -1, 3);
            sheet.due("nothing any more", x.judge(0, 0), 100);
        });
    }

    /** Three whose LAST are 2, 0 and 3. */
    private static FootKeeper judged() {
        FootKeeper x = Sheet.with("", 0, 0, 0, 0, 0, 0);
        x.last(0, 2);
        x.last(1, 0);
        return x;
    }

    private void refusals() {
        term("NOTHING (-11): nothing is there;", () -> {
            FootKeeper x = Sheet.with("", 0, 0);
            sheet.due("item", x.item(0, 0, 1), NOTHING);
            sheet.due("shift", x.shift(0, 0, 0, 0, 0), NOTHING);
            sheet.due("taken", x.taken(1, 0), NOTHING);
        });
        term("CAST (-12): another sort or KIND;", () -> {
            FootKeeper x = Sheet.with("", 0, 0);
            x.tape(0, 1, 5);
            x.tape(1, 2, 5);
            sheet.due("judge", x.judge(0, 0), CAST);
            sheet.due("shift", x.shift(0, 0, 1, 0, 1), CAST);
            sheet.due("taken", x.taken(0, 1), CAST);
        });
        term("PLACE (-13): no such place;", () -> {
            FootKeeper x = new FootKeeper();
            x.tape(0, 1, 5);
            sheet.due("item", x.item(0, 5, 1), PLACE);
            sheet.due("shift", x.shift(0, 5, 0, 0, 1), PLACE);
        });
        term("SIZE (-14): a size below 0.", () -> {
            FootKeeper x = new FootKeeper();
            sheet.due("tape", x.tape(0, 1, -1), SIZE);
            sheet.due("tape", x.tape(0, 1, MIN), SIZE);
            sheet.due("0 is none below", x.tape(0, 1, 0), 1);
        });
        term("Answers: NONE (-1) no such number; BAD (-2) a number is not as told; STATE (-3) as told; FULL (-4);", () -> {
            sheet.due("NONE", FootKeeper.NONE, -1);
            sheet.due("BAD", FootKeeper.BAD, -2);
            sheet.due("STATE", FootKeeper.STATE, -3);
            sheet.due("FULL", FootKeeper.FULL, -4);
        });
        term("The constants: `NO = Long.MIN_VALUE`: There is no such number.", () ->
                sheet.due("NO", FootKeeper.NO, Long.MIN_VALUE));
        term("the first that a call's words name.", this::orderOfRefusals);
    }

    /** Calls with more than one thing wrong. */
    private void orderOfRefusals() {
        FootKeeper x = HostTests.full();
        sheet.due("shooter: kind, v, full", x.shooter(7, 10), NONE);
        sheet.due("shooter: v, full", x.shooter(0, 10), BAD);
        sheet.due("shooter: full", x.shooter(0, 9), FULL);
        sheet.due("row: shooter, n", x.row(6, 0, 3), NONE);
        sheet.due("row: part, n, KIND", x.row(1, 4, 3), NONE);
        sheet.due("row: n, KIND", x.row(1, 3, 3), BAD);
        sheet.due("row: KIND", x.row(1, 3, 2), STATE);
        sheet.due("feed: sign, full", x.feed(128), BAD);
        sheet.due("feed: full", x.feed(127), FULL);
        sheet.due("ground: full, a fault", x.ground(), FULL);
        sheet.due("shoot: shooter, draw", x.shoot(6, 100), NONE);
        sheet.due("line: shooter, full", x.line(6), NONE);
        sheet.due("line: full", x.line(5), FULL);
        sheet.due("order: k, there are fewer", Sheet.with("").order(4), NONE);
        sheet.due("caught: shooter, n", x.caught(6, 21), NONE);
        sheet.due("see: side, full", x.see(3), NONE);
        sheet.due("see: full", x.see(2), FULL);
        sheet.due("book: shooter, draw, full", x.book(6, 100), NONE);
        sheet.due("book: draw, full", x.book(5, 100), BAD);
        sheet.due("book: full", x.book(5, 99), FULL);
        sheet.due("book: -1, draw, full", x.book(-1, 100), 0);
        sheet.due("taken: k, shooter", x.taken(6, 7), BAD);
        sheet.due("taken: shooter", x.taken(6, 6), NOTHING);
        sheet.due("tape: tape, sort, size", x.tape(6, 5, -1), NONE);
        sheet.due("tape: sort, size", x.tape(0, 5, -1), BAD);
        sheet.due("tape: size", x.tape(0, 4, -1), SIZE);
        sheet.due("item: tape, place", x.item(6, 99, 0), NONE);
        sheet.due("item: nothing, place", x.item(5, 99, 0), NOTHING);
        sheet.due("item: place", x.item(0, 99, 0), PLACE);
        sheet.due("shift: tape, nothing", x.shift(6, -1, 5, 0, 1), NONE);
        sheet.due("shift: other, nothing", x.shift(5, -1, 6, 0, 1), NONE);
        sheet.due("shift: nothing here, place", x.shift(5, -1, 0, 0, 1), NOTHING);
        sheet.due("shift: nothing there, place", x.shift(0, -1, 5, 0, 1), NOTHING);
        sheet.due("shift: sorts, place", x.shift(0, -1, 1, 0, 1), CAST);
        sheet.due("shift: place", x.shift(0, -1, 0, 0, 1), PLACE);
        sheet.due("judge: sort, place", x.judge(1, -1), CAST);
        FootKeeper y = new FootKeeper();
        y.tape(1, 1, 1);
        sheet.due("judge: sort, nobody", y.judge(1, 0), CAST);
        sheet.due("judge: tape, nobody", y.judge(6, 0), NONE);
        // 999 shots are more calls than an object is promised for
        Sheet.shoot(x, 0, 0, 999);
        sheet.due("shoot: shooter, 999", x.shoot(6, 0), NONE);
        sheet.due("shoot: draw, 999", x.shoot(0, 100), BAD);
        sheet.due("shoot: 999", x.shoot(0, 0), STATE);
    }

    /** All that can be full is full; TAPES 0 and 1 hold bytes and shorts, TAPE 5 nothing. */
    static FootKeeper full() {
        FootKeeper x = Sheet.with("", 6, 0, 5, 1, 4, 2, 3, 3, 2, 4, 1, 5);
        for (int i = 0; i < 6; i++) {
            Sheet.ground(x, "in 1" + i + " p<9");
            x.see(i % 3);
        }
        Sheet.line(x, 0, 1, 2, 3);
        for (int i = 0; i < 10; i++) {
            x.book(i % 6, i);
        }
        Sheet.tape(x, 0, 0, 3, 3, 3);
        Sheet.tape(x, 1, 1, 7);
        Sheet.feed(x, "left p=1;".repeat(11) + "!");
        return x;
    }

    public static void main(String[] args) throws IOException {
        HostTests t = new HostTests();
        t.tapes();
        t.judging();
        t.refusals();
        t.sheet.end();
    }
}
