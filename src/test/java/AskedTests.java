import java.io.IOException;

/** For each sentence of the second part of 'Terms' (what is asked, acts, the image) a test of its own. */
public final class AskedTests {
    private static final int NONE = -1, BAD = -2, STATE = -3, FULL = -4;
    private static final long NO = Long.MIN_VALUE;
    private static final int MAX = Integer.MAX_VALUE, MIN = Integer.MIN_VALUE;
    private static final String SURELY = "in 99 p<9;in 1 p<9;save 0 p<9", NEVER = "in 0 p<9";

    private final Sheet sheet = new Sheet();

    private AskedTests() throws IOException {
    }

    private void term(String words, Runnable test) {
        sheet.test("Terms", words, test);
    }

    private void bestIs(FootKeeper x, int last, int side, int chance) {
        x.last(0, last);
        sheet.due("BEST by LAST " + last, x.best(0, 0), side);
        sheet.due("BEST by LAST " + last + ", CHANCE", x.best(0, 1), chance);
    }

    private void mixIs(String text, int which, int sum) {
        FootKeeper x = Sheet.with(text, 0, 0);
        sheet.due("MIX of '" + text + "'", x.mix(0, 0), which);
        sheet.due("MIX of '" + text + "', sum", x.mix(0, 1), sum);
    }

    private void sides() {
        term("BEST of one: the SIDE with the greatest CHANCE by the NOTE (of several the first); that CHANCE.", () -> {
            FootKeeper x = Sheet.with("", 0, 1);
            bestIs(x, 3, 0, 80);
            bestIs(x, 0, 1, 80);
            bestIs(x, 1, 0, 80);
            bestIs(x, 2, 0, 80);
            bestIs(Sheet.with(NEVER, 0, 1), 2, 0, 0);
            bestIs(Sheet.with(SURELY, 0, 1), 0, 0, 100);
            FootKeeper y = Sheet.with("in 50 s<2;in 90 s=2;save 40 p<9", 0, 0);
            bestIs(y, 2, 0, 50);
            bestIs(y, 0, 2, 90);
            bestIs(Sheet.with("in 50 s<2;in 90 s=2;save 39 p<9", 0, 0), 2, 2, 51);
            FootKeeper z = Sheet.with("in 50 n=0;in 40 n=1&s=1;in 9 n=1", 0, 0);
            z.shoot(0, 99);
            bestIs(z, 3, 0, 9);
            bestIs(z, 0, 1, 49);
        });
        term("MIX of one: of all l, m, r (0 or more, 10 together)", () -> {
            mixIs("in 50 s=0;save 0 p<9", 1000, 500);
            mixIs("in 50 s=1;save 0 p<9", 100, 500);
            mixIs("in 50 s=2;save 0 p<9", 10, 500);
            mixIs("in 50 s<2;save 50 s<2", 550, 250);
            mixIs("in 50 s>0;save 50 s>0", 55, 250);
            mixIs(SURELY, 10, 1000);
            FootKeeper x = Sheet.with("in 50 n=0&s=0;in 40 n=1&s=1;save 0 p<9", 0, 0);
            x.shoot(0, 99);
            sheet.due("MIX after a shot", x.mix(0, 0), 100);
            sheet.due("MIX after a shot, sum", x.mix(0, 1), 400);
        });
        term("the least of three sums, one for each DIVE (l times CHANCE left, m times CHANCE in the middle, r times CHANCE"
                + " right, by that DIVE), is greatest", () -> {
            // the keeper takes all of a side: 250 and 60, 270 and 60, 270 and 250
            mixIs("in 90 s=0;in 50 s=1;in 30 s=2;save 99 p<9", 352, 310);
            mixIs("in 99 p<9;in 1 p<9;save 99 p<9;save 1 p<9", 244, 600);
            mixIs("in 90 s=0;in 30 s>0;save 90 s=0", 10, 300);
        });
        term("(of several those with the least l, then the least m)", () -> {
            mixIs("", 244, 640);
            mixIs(NEVER, 10, 0);
            mixIs("in 50 s<2;save 0 p<9", 100, 500);
            mixIs("in 50 s>0;save 0 p<9", 10, 500);
            mixIs("in 50 s=0|s=2;save 0 p<9", 10, 500);
            mixIs("save 0 p<9", 10, 800);
        });
    }

    private void likelyIs(FootKeeper x, int g, long above, long below) {
        sheet.due("LIKELY of " + g + ", above", x.likely(g, 0), above);
        sheet.due("LIKELY of " + g + ", below", x.likely(g, 1), below);
    }

    private void orderIs(String text, int n, int... want) {
        FootKeeper x = Sheet.with(text);
        for (int i = 0; i < n; i++) {
            x.shooter(0, i);
            x.line(i);
        }
        for (int k = 0; k < 4; k++) {
            sheet.due("ORDER of " + n + " by '" + text + "' at " + k, x.order(k), k < n ? want[k] : -5);
        }
    }

    private void winIs(FootKeeper x, int q, int what, long above, long below) {
        sheet.due("WIN by " + q + ", " + what + ", above", x.win(q, what, 0), above);
        sheet.due("WIN by " + q + ", " + what + ", below", x.win(q, what, 1), below);
    }

    private void rows() {
        term("SHOOTERS one behind the other (4 at most; one may be there again).", () -> {
            FootKeeper x = Sheet.with("", 0, 0, 0, 1);
            for (int i = 0; i < 4; i++) {
                sheet.due("one and the same", x.line(1), i + 1);
            }
            sheet.due("a fifth", x.line(0), FULL);
            sheet.due("four", x.count(2), 4);
        });
        term("LIKELY of a number g (0 .. 4): how likely just g are IN", () -> {
            FootKeeper x = Sheet.with(SURELY, 0, 0);
            for (int n = 0; n < 5; n++) {
                for (int g = 0; g < 5; g++) {
                    likelyIs(x, g, g == n ? 1 : 0, 1);
                }
                x.line(0);
            }
            for (int g : new int[] {-1, 5, MAX, MIN}) {
                likelyIs(x, g, NO, NO);
            }
        });
        term("if these shoot one behind the other from now on, each DRAW alike likely: a fraction in lowest terms.", () -> {
            FootKeeper x = Sheet.with("", 0, 0);
            Sheet.line(x, 0, 0);
            likelyIs(x, 0, 3, 25);
            likelyIs(x, 1, 14, 25);
            likelyIs(x, 2, 8, 25);
            likelyIs(x, 3, 0, 1);
            x.last(0, 0);
            likelyIs(x, 0, 9, 25);
            FootKeeper y = Sheet.with("in 33 p<9;save 0 p<9", 0, 0);
            Sheet.line(y, 0, 0, 0, 0);
            likelyIs(y, 0, 20151121, 100000000);
            likelyIs(y, 4, 1185921, 100000000);
            FootKeeper z = Sheet.with(NEVER, 0, 0);
            Sheet.line(z, 0, 0, 0, 0);
            likelyIs(z, 0, 1, 1);
            likelyIs(z, 1, 0, 1);
        });
        term("---- rows; part 0 above, 1 below the line.", () -> {
            FootKeeper x = Sheet.with("in 44 p<9;save 0 p<9", 0, 0, 0, 0, 0, 0);
            x.line(0);
            sheet.due("LIKELY, above", x.likely(1, 0), 11);
            sheet.due("LIKELY, below", x.likely(1, 1), 25);
            sheet.due("WIN, above", x.win(0, 0, 0), 11);
            sheet.due("WIN, below", x.win(0, 0, 1), 25);
            sheet.due("ODDS, above", x.odds(0, 0), 11);
            sheet.due("ODDS, below", x.odds(0, 1), 25);
            sheet.due("MEAN, above", x.mean(0), 44);
            sheet.due("MEAN, below", x.mean(1), 1);
            for (int part : new int[] {-1, 2, MAX, MIN}) {
                sheet.due("LIKELY by " + part, x.likely(1, part), NO);
                sheet.due("WIN by " + part, x.win(0, 0, part), NO);
                sheet.due("ODDS by " + part, x.odds(0, part), NO);
                sheet.due("MEAN by " + part, x.mean(part), NO);
            }
        });
        term("ORDER: of all orders of THE ROW that by which it is likeliest that more than the half of these are IN", () -> {
            orderIs("", 0);
            orderIs(NEVER, 1, 0);
            // both of two: 67 and then 70 of a hundred, if the second is ahead; the first ahead leaves nothing to it
            orderIs("in 70 p=0;in 67 g<1;save 0 p<9", 2, 1, 0);
            // two of three: only the third can be in while none is; with it behind the others one is in at most
            orderIs("in 94 g=1;in 88 p=2;save 0 p<9", 3, 2, 0, 1);
            // three of four: the first cannot be in, and the second only if it waits for its turn as the third
            orderIs("in 27 g<2&a>1;in 69 p>1&a>0;save 0 p<9", 4, 0, 2, 1, 3);
        });
        term("(of several the first as a row of places of THE ROW)", () -> {
            orderIs("", 4, 0, 1, 2, 3);
            orderIs(NEVER, 4, 0, 1, 2, 3);
            orderIs(SURELY, 3, 0, 1, 2);
            orderIs("in 90 p=3&a=0;in 30 p<9;save 0 p<9", 4, 3, 0, 1, 2);
            orderIs("in 90 p=0&a=3;in 30 p<9;save 0 p<9", 4, 1, 2, 3, 0);
            FootKeeper x = Sheet.with("in 90 p=1&a=1;in 30 p<9;save 0 p<9", 0, 0, 0, 0);
            Sheet.line(x, 1, 0, 1);
            // places 0 and 2 hold one and the same, so the row as it is has place 0 too early
            sheet.due("the other ahead, first", x.order(0), 0);
            sheet.due("the same again", x.order(1), 2);
            sheet.due("the other", x.order(2), 1);
            FootKeeper y = Sheet.with("in 90 p=1&a=0;in 30 p<9;save 0 p<9", 0, 0, 0, 0);
            Sheet.line(y, 0, 0, 1);
            sheet.due("the third ahead", y.order(0), 2);
            Sheet.line(y, -1, 0);
            sheet.due("one alone, after that", y.order(0), 0);
        });
        term("the k-th place (-5: there are fewer).", () -> {
            FootKeeper x = Sheet.with("", 0, 0);
            for (int n = 0; n < 5; n++) {
                for (int k = 0; k < 4; k++) {
                    sheet.due("of " + n + " the " + k, x.order(k), k < n ? k : -5);
                }
                x.line(0);
            }
        });
        term("WIN of THE ROW against as many others, each of whom is IN with q of a hundred (0 .. 100)", () -> {
            FootKeeper x = Sheet.with("", 0, 0);
            winIs(x, 0, 0, 0, 1);
            winIs(x, 100, 1, 1, 1);
            Sheet.line(x, 0, 0);
            // none, one, two: 3, 14, 8 of 25
            winIs(x, 0, 0, 22, 25);
            winIs(x, 0, 1, 3, 25);
            winIs(x, 100, 0, 0, 1);
            winIs(x, 100, 1, 8, 25);
            winIs(x, 50, 0, 19, 50);
            winIs(x, 50, 1, 39, 100);
            for (int q : new int[] {-1, 101, MAX, MIN}) {
                winIs(x, q, 0, NO, NO);
            }
        });
        term("how likely more of THE ROW are IN than of the others; as many: fractions in lowest terms.", () -> {
            FootKeeper x = Sheet.with(SURELY, 0, 0);
            Sheet.line(x, 0, 0, 0, 0);
            winIs(x, 100, 0, 0, 1);
            winIs(x, 100, 1, 1, 1);
            winIs(x, 0, 0, 1, 1);
            winIs(x, 0, 1, 0, 1);
            winIs(x, 99, 0, 3940399, 100000000);
            winIs(x, 99, 1, 96059601, 100000000);
            FootKeeper y = Sheet.with("in 1 p<9;save 0 p<9", 0, 0);
            Sheet.line(y, 0, 0, 0, 0);
            // of 100^8: the squares of 96059601, 3881196, 58806, 396, 1
            winIs(y, 1, 1, 924251408497207L, 1000000000000000L);
        });
    }

    private void notes() {
        term("WORTH of one: CHANCE by its AIM, if the keeper stayed (1), less CHANCE by its AIM and the NOTE (may be below 0).",
                () -> {
            FootKeeper x = Sheet.with("in 99 p<9;in 1 p<9;save 99 p<9;save 1 p<9", 0, 0, 0, 1);
            sheet.due("a keeper who stays", x.worth(0), 0);
            sheet.due("both stay", x.worth(1), 0);
            x.last(0, 0);
            x.last(1, 0);
            sheet.due("all", x.worth(0), 100);
            sheet.due("all below 0", x.worth(1), -100);
            x.last(0, 2);
            sheet.due("the note leads elsewhere", x.worth(0), 0);
            FootKeeper y = Sheet.with("", 2, 0);
            y.last(0, 2);
            sheet.due("of STEADY, who stays with LAST", y.worth(0), 40);
        });
        term("STOP of one: CHANCE by what WAITING aims at, less CHANCE by its AIM, by the NOTE both (may be below 0).", () -> {
            FootKeeper x = Sheet.with("in 90 s=0;in 10 s>0;save 5 p<9", 0, 0, 3, 0);
            x.last(0, 0);
            sheet.due("below 0", x.stop(0), -75);
            sheet.due("of WAITING", x.stop(1), 0);
            FootKeeper y = Sheet.with("in 99 p<9;in 1 p<9;save 99 p<9;save 1 p<9", 0, 0);
            y.last(0, 0);
            sheet.due("above 0", y.stop(0), 100);
            FootKeeper z = Sheet.with("in 99 s=0;in 1 s=0;save 0 p<9", 0, 0);
            z.last(0, 0);
            sheet.due("all below 0", z.stop(0), -100);
            FootKeeper w = Sheet.with("", 2, 0);
            w.last(0, 2);
            sheet.due("of STEADY, who stays with LAST", w.stop(0), 40);
        });
        term("FORGET of one: the LAST (0 .. 3), in place of its own, by which CHANCE by its AIM and the NOTE is greatest",
                () -> {
            String[] notes = {"left s>0;right s=0", "left s=0|s>1;right s=1", "left s<2|s=3;right s=2", "left s<3;right s=3"};
            for (int want = 0; want < 4; want++) {
                FootKeeper x = Sheet.with(notes[want], 0, 0);
                for (int last = 0; last < 4; last++) {
                    x.last(0, last);
                    sheet.due("FORGET", x.forget(0, 0), want);
                    sheet.due("FORGET, CHANCE", x.forget(0, 1), 80);
                    sheet.due("LAST stays", x.of(0, 2), last);
                }
            }
        });
        term("is greatest (of several the least); that CHANCE.", () -> {
            FootKeeper x = Sheet.with("", 0, 0, 0, 1, 2, 0, 1, 0);
            sheet.due("1 of 1, 2, 3", x.forget(0, 0), 1);
            sheet.due("0 of 0, 2", x.forget(1, 0), 0);
            sheet.due("3 alone", x.forget(2, 0), 3);
            sheet.due("0 of all", x.forget(3, 0), 0);
            FootKeeper y = Sheet.with(NEVER, 2, 0);
            sheet.due("all alike", y.forget(0, 0), 0);
            sheet.due("nothing", y.forget(0, 1), 0);
            FootKeeper z = Sheet.with("in 99 s=2;in 1 s=2;save 0 p<9", 2, 0);
            sheet.due("what it aims at goes along", z.forget(0, 0), 2);
            sheet.due("all", z.forget(0, 1), 100);
        });
        term("CAUGHT of one and n (0 .. 20): in how many of n SHOTS of that one alone, one behind the other, none being IN,",
                () -> {
            FootKeeper x = Sheet.with("", 2, 0, 2, 1);
            for (int n = 0; n <= 20; n++) {
                sheet.due("all but the first of " + n, x.caught(0, n), Math.max(0, n - 1));
                sheet.due("all of " + n, x.caught(1, n), n);
            }
            sheet.due("-1", x.caught(0, -1), BAD);
            sheet.due("21", x.caught(0, 21), BAD);
            FootKeeper y = Sheet.with("left g=0;right g>0", 2, 0);
            sheet.due("none being IN", y.caught(0, 20), 20);
            FootKeeper z = Sheet.with("left n<5&a<5;right n=5&a=5;stay n>5|n<5", 0, 0);
            sheet.due("five, then not; from ten on again", z.caught(0, 20), 10);
            FootKeeper w = Sheet.with("", 1, 0);
            sheet.due("TURNED never", w.caught(0, 20), 0);
        });
    }

    private void seen() {
        term("SEEN told by hand: SIDES, one behind the other (6 at most).", () -> {
            FootKeeper x = new FootKeeper();
            for (int i = 0; i < 6; i++) {
                sheet.due("see", x.see(2 - i % 3), i + 1);
            }
            sheet.due("a seventh", x.see(0), FULL);
            sheet.due("six", x.count(3), 6);
            sheet.due("no side", x.see(3), NONE);
        });
        term("WHO: those SHOOTERS, as bits, whose SHOTS, that one's alone, one behind the other from now on, none being IN, go"
                + " just there.", () -> {
            FootKeeper x = new FootKeeper();
            sheet.due("nobody", x.who(), 0);
            for (int i = 0; i < 6; i++) {
                x.shooter(0, 2 - i / 3);
            }
            sheet.due("nothing seen: all", x.who(), 63);
            Sheet.see(x, 2, 2, 2, 2, 2, 2);
            sheet.due("the lower three", x.who(), 7);
            Sheet.see(x, -1, 1, 1, 1, 1, 1, 1);
            sheet.due("the upper three", x.who(), 56);
            Sheet.see(x, -1, 1, 1, 1, 1, 1, 2);
            sheet.due("otherwise at the last", x.who(), 0);
            Sheet.see(x, -1, 2, 1);
            sheet.due("otherwise at the second", x.who(), 0);
            FootKeeper y = Sheet.with("left g=0;right g>0;in 50 s=2;in 40 s<2", 3, 0, 5, 0, 2, 0);
            Sheet.see(y, 2, 2, 2, 2, 2, 2);
            sheet.due("none being IN", y.who(), 1);
            Sheet.see(y, -1, 0, 0, 0, 2, 0, 2);
            sheet.due("READ, from now on", y.who(), 2);
            Sheet.see(y, -1, 0, 0, 0, 0, 0, 0);
            sheet.due("STEADY", y.who(), 4);
            y.shoot(1, 99);
            Sheet.see(y, -1, 0, 0, 2);
            sheet.due("READ, from its second shot on", y.who(), 2);
            FootKeeper z = Sheet.with("left n=0;right n=1;in 50 s=0;in 40 s>0", 3, 0);
            Sheet.see(z, 1, 0, 1);
            sheet.due("WAITING, for another note each time", z.who(), 1);
            FootKeeper w = Sheet.with("left a=0;right a=1;stay a>1", 3, 0, 3, 0, 3, 0);
            Sheet.see(w, 1, 0, 0);
            sheet.due("each alone", w.who(), 7);
        });
        term("ODDS of one: if it shoots at any SIDE, each alike likely, and by any DRAW: how likely it is IN by the NOTE:"
                + " a fraction in lowest terms.", () -> {
            String[] texts = {"", NEVER, SURELY, "in 99 p<9;in 1 s<2;save 0 p<9", "in 1 s=1;save 0 p<9", "in 1 s=1;save 1 p<9"};
            long[] above = {2, 0, 1, 299, 1, 0};
            long[] below = {3, 1, 1, 300, 300, 1};
            for (int i = 0; i < texts.length; i++) {
                FootKeeper x = Sheet.with(texts[i], 0, 0);
                sheet.due("'" + texts[i] + "', above", x.odds(0, 0), above[i]);
                sheet.due("'" + texts[i] + "', below", x.odds(0, 1), below[i]);
            }
            FootKeeper y = Sheet.with("in 30 n=0;in 60 n=1;save 0 p<9", 0, 0);
            y.shoot(0, 99);
            sheet.due("after a shot, above", y.odds(0, 0), 3);
            sheet.due("after a shot, below", y.odds(0, 1), 5);
        });
        term("MEAN: CHANCE by AIM and the NOTE of all SHOOTERS, together, by how many they are: a fraction in lowest terms"
                + " (NO: nobody).", () -> {
            FootKeeper x = new FootKeeper();
            sheet.due("nobody, above", x.mean(0), NO);
            sheet.due("nobody, below", x.mean(1), NO);
            // 80 each, but 40 for the one who stays with the keeper
            long[] above = {80, 60, 200, 70, 72, 220};
            long[] below = {1, 1, 3, 1, 1, 3};
            for (int i = 0; i < 6; i++) {
                x.shooter(0, i == 1 ? 1 : 2);
                sheet.due("of " + (i + 1) + ", above", x.mean(0), above[i]);
                sheet.due("of " + (i + 1) + ", below", x.mean(1), below[i]);
            }
            FootKeeper y = Sheet.with(NEVER, 0, 0, 0, 0);
            sheet.due("none, above", y.mean(0), 0);
            sheet.due("none, below", y.mean(1), 1);
            FootKeeper z = Sheet.with("in 30 n=0;in 61 n=1&s=1;save 0 p<9", 0, 0, 2, 0);
            z.shoot(1, 99);
            z.last(1, 1);
            sheet.due("after a shot, above", z.mean(0), 91);
            sheet.due("after a shot, below", z.mean(1), 2);
        });
        term("A BOOK told by hand: SHOOTERS, and DRAWS (10 at most), one behind the other from now on: LOOKED at: the first"
                + " that is not IN (-5: none).", () -> {
            FootKeeper x = Sheet.with("in 99 g<9;in 1 g<9;save 0 p<9", 0, 0);
            sheet.due("an empty one", x.looked(), -5);
            for (int i = 0; i < 10; i++) {
                sheet.due("all are in", x.looked(), -5);
                sheet.due("book", x.book(0, i < 9 ? 99 : 0), i + 1);
            }
            sheet.due("the tenth is not", x.looked(), 9);
            sheet.due("an eleventh", x.book(0, 0), FULL);
            sheet.due("ten", x.count(4), 10);
            x.shoot(0, 0);
            sheet.due("from now on", x.looked(), 8);
            x.book(-1, 0);
            x.book(0, 0);
            sheet.due("the first is in", x.looked(), -5);
            FootKeeper y = Sheet.with("", 2, 0, 2, 1);
            y.book(0, 79);
            y.book(1, 39);
            y.book(0, 39);
            y.book(1, 40);
            y.book(1, 99);
            sheet.due("LAST goes along; the first of two", y.looked(), 3);
            FootKeeper z = Sheet.with("right n=1;in 70 s=0;in 60 s=2", 1, 0);
            z.book(0, 69);
            z.book(0, 20);
            z.book(0, 0);
            sheet.due("TURNED turns to the keeper", z.looked(), 1);
        });
    }

    private void actIs(FootKeeper x, int shooter, int act, int v, int want, long... bodies) {
        String call = "act(" + shooter + ", " + act + ", " + v + ")";
        sheet.due(call, x.act(shooter, act, v), want);
        long[] trace = new long[Math.max(0, Math.min(20, x.count(6)))];
        for (int i = 0; i < trace.length; i++) {
            trace[i] = x.trace(i);
        }
        sheet.dueAll("trace of " + call, trace, bodies);
        sheet.due("trace behind " + call, x.trace(bodies.length), NONE);
    }

    private void acts() {
        term("ACTS of a SHOOTER with x (wrapping): 0 aims, 1 shows, 2 tells; i its number.", () -> {
            FootKeeper x = Sheet.with("", 0, 9, 0, 0, 0, 9);
            actIs(x, 0, 0, 7, 7, 10);
            actIs(x, 2, 0, 7, 9, 10);
            actIs(x, 2, 1, 7, 0, 11, 10);
            actIs(x, 0, 2, 7, -4, 12, 11, 10);
            for (int act : new int[] {-1, 3, MAX, MIN}) {
                actIs(x, 0, act, 7, 0);
            }
        });
        body("SHOOTER: 10 aims: x + i.", 0, 0, 0, MAX, MIN, 10);
        body("11 shows: aims(x) - v.", 0, 9, 1, MIN, MAX - 7, 11, 10);
        body("12 tells: shows(x) * 2.", 0, 0, 2, (1 << 30) - 1, MIN, 12, 11, 10);
        body("TURNED: 20 shows: super.shows(x) ^ 6.", 1, 0, 1, MAX, MIN + 6, 20, 11, 10);
        body("STEADY: 30 aims: super.aims(x * 3).", 2, 0, 0, MAX, MAX - 1, 30, 10);
        body("WAITING: 40 tells: super.tells(x) + shows(1).", 3, 0, 2, (1 << 30) - 2, MIN, 40, 12, 11, 10, 11, 10);
        body("CHANGING: 50 aims: -super.aims(x).", 4, 0, 0, MAX, MIN, 50, 10);
        body("51 shows: super.shows(x + 1).", 4, 0, 1, MAX - 1, MIN ^ 6, 51, 20, 11, 50, 10);
        body("READ: 60 tells: super.tells(x - i).", 5, 0, 2, MIN, -4, 60, 12, 11, 30, 10);
        body("TOLD: 70 shows: super.shows(x) + super.aims(2).", 6, 0, 1, MAX - 2, MIN + 1, 70, 11, 71, 10, 10);
        body("71 aims: super.aims(x) ^ v.", 6, 9, 0, MAX, MIN + 9, 71, 10);
        body("71 aims: super.aims(x) ^ v.", 6, 9, 0, MAX - 1, MAX - 9, 71, 10);
        term("or, if that has none, of the next KIND above that has one;", () -> {
            FootKeeper x = Sheet.with("", 0, 0, 4, 2, 5, 2, 6, 2);
            actIs(x, 1, 2, 5, 2 * ((-7 - 2) ^ 6), 12, 51, 20, 11, 50, 10);
            actIs(x, 2, 0, 5, 17, 30, 10);
            actIs(x, 2, 1, 5, 15, 11, 30, 10);
            // shows(5): (8 ^ 2) - 2 + 5 = 13, twice that, and shows(1): (4 ^ 2) - 2 + 5 = 9
            actIs(x, 3, 2, 5, 35, 40, 12, 70, 11, 71, 10, 10, 70, 11, 71, 10, 10);
        });
        term("THE TRACE: the numbers of the bodies that ran in the latest act(), as they began; the first 20 are kept.", () -> {
            FootKeeper x = Sheet.with("", 6, 0);
            sheet.due("no act yet", x.trace(0), NONE);
            sheet.due("no bodies yet", x.count(6), 0);
            actIs(x, 0, 2, 0, 7, 40, 12, 70, 11, 71, 10, 10, 70, 11, 71, 10, 10);
            actIs(x, 0, 0, 0, 0, 71, 10);
            sheet.due("none of the one before", x.trace(2), NONE);
            actIs(x, 1, 0, 0, 0);
            for (int i : new int[] {-1, 19, 20, MAX, MIN}) {
                sheet.due("trace(" + i + ")", x.trace(i), NONE);
            }
        });
    }

    /** What a body does wraps: asked of shooter 1, of a kind and with v, who stands behind a SHOOTER. */
    private void body(String words, int kind, int v, int act, int x, int want, long... bodies) {
        term(words, () -> actIs(Sheet.with("", 0, 0, kind, v), 1, act, x, want, bodies));
    }

    private void image() {
        term("THE IMAGE: SHOOTERS with all that is theirs,", () -> {
            FootKeeper x = Sheet.with("", 6, 4, 0, 2);
            x.row(0, 3, 2);
            x.last(0, 1);
            x.shoot(1, 0);
            x.image();
            x.row(0, 3, 1);
            x.last(0, 0);
            x.shoot(1, 0);
            x.last(1, 3);
            x.shooter(5, 5);
            x.shoot(2, 0);
            sheet.due("undo", x.undo(), 2);
            long[] of = {x.of(0, 0), x.of(0, 1), x.of(0, 2), x.of(0, 3), x.of(0, 4)};
            sheet.dueAll("the first", of, 6, 4, 1, 0, 0);
            of = new long[] {x.of(1, 0), x.of(1, 1), x.of(1, 2), x.of(1, 3), x.of(1, 4)};
            sheet.dueAll("the second", of, 0, 2, 2, 1, 1);
            sheet.due("the third", x.of(2, 0), NONE);
            sheet.due("the ROW", x.row(0, 3, 0), 2);
            sheet.due("a new third", x.shooter(6, 7), 2);
            of = new long[] {x.of(2, 0), x.of(2, 1), x.of(2, 2), x.of(2, 3), x.of(2, 4), x.row(2, 0, 0)};
            sheet.dueAll("it is new", of, 6, 7, 3, 0, 0, 0);
        });
        term("SHOTS, GOALS of all, THE ROW, SEEN, the BOOK, which GROUND holds.", () -> {
            FootKeeper x = Sheet.with("in 50 p=0;in 9 p=1;save 0 p<9", 0, 0, 0, 1);
            x.shoot(0, 0);
            x.shoot(0, 99);
            Sheet.line(x, 1);
            Sheet.see(x, 1, 1);
            x.book(1, 8);
            x.book(1, 9);
            x.book(0, 0);
            x.image();
            Sheet.ground(x, "in 99 p<9");
            x.anew();
            Sheet.line(x, -1, 0, 0, 0);
            Sheet.see(x, -1, 0);
            x.book(-1, 0);
            x.book(0, 99);
            sheet.due("undo", x.undo(), 2);
            sheet.due("SHOTS", x.told(0), 2);
            sheet.due("GOALS", x.told(1), 1);
            sheet.due("how many of THE ROW", x.count(2), 1);
            sheet.due("THE ROW", x.likely(1, 0), 9);
            sheet.due("how many SEEN", x.count(3), 2);
            sheet.due("SEEN", x.who(), 2);
            sheet.due("how many of the BOOK", x.count(4), 3);
            sheet.due("the BOOK", x.looked(), 1);
            sheet.due("the first GROUND holds", x.of(0, 10), 50);
            sheet.due("there are two", x.count(1), 2);
        });
        term("which GROUND holds.", () -> {
            FootKeeper x = Sheet.with("", 0, 0);
            x.image();
            Sheet.ground(x, "in 50 p=0");
            x.undo();
            sheet.due("none holds", x.of(0, 10), 80);
            sheet.due("the next has its own number", Sheet.ground(x, "in 60 p=0"), 1);
            sheet.due("and holds", x.of(0, 10), 60);
            x.image();
            for (int i = 2; i < 6; i++) {
                sheet.due("more", Sheet.ground(x, "in 7 p=0"), i);
            }
            x.undo();
            sheet.due("an older one holds", x.of(0, 10), 60);
            sheet.due("there are six all the same", Sheet.ground(x, "in 8 p=0"), FULL);
        });
        term("THE IMAGE: ", () -> {
            FootKeeper x = Sheet.with("", 0, 0);
            sheet.due("none yet", x.undo(), STATE);
            x.image();
            x.feed('i');
            x.tape(0, 0, 3);
            x.item(0, 2, 9);
            x.act(0, 1, 1);
            sheet.due("undo", x.undo(), 1);
            sheet.due("THE TEXT is none of it", x.count(5), 1);
            sheet.due("nor a TAPE", x.read(0, 2), 9);
            sheet.due("nor THE TRACE", x.trace(0), 11);
        });
    }

    public static void main(String[] args) throws IOException {
        AskedTests t = new AskedTests();
        t.sides();
        t.rows();
        t.notes();
        t.seen();
        t.acts();
        t.image();
        t.sheet.end();
    }
}
