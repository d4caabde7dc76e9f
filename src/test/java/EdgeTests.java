import java.io.IOException;

/** For each sentence of 'Promise 1' to 'Promise 38' that names a boundary case a test of its own. */
public final class EdgeTests {
    private static final int NONE = -1, BAD = -2, STATE = -3, FULL = -4;
    private static final int NOTHING = -11, CAST = -12, PLACE = -13, SIZE = -14;
    private static final long NO = Long.MIN_VALUE;
    private static final int MAX = Integer.MAX_VALUE, MIN = Integer.MIN_VALUE;
    private static final int[] NO_ONE = {-1, -2, 2, 5, 6, MAX, MIN}, NO_HALF = {-1, 2, 3, MAX, MIN};

    private final Sheet sheet = new Sheet();

    private EdgeTests() throws IOException {
    }

    private void promise(int number, String words, Runnable test) {
        sheet.test("Promise " + number, words, test);
    }

    /** Two of KIND SHOOTER, who aim left and to the middle; no other number is anybody's. */
    private static FootKeeper two() {
        return Sheet.with("", 0, 0, 0, 1);
    }

    private void shooters() {
        promise(1, "Nobody, no GROUND.", () -> {
            FootKeeper x = new FootKeeper();
            for (int what = 0; what < 7; what++) {
                sheet.due("count(" + what + ")", x.count(what), 0);
            }
            sheet.due("who", x.who(), 0);
            sheet.due("mean", x.mean(0), NO);
            sheet.due("undo", x.undo(), STATE);
            sheet.due("of", x.of(0, 0), NONE);
            x.shooter(0, 0);
            sheet.due("SURE", x.of(0, 10), 80);
            sheet.due("the first ground's number", Sheet.ground(x, "in 5 p=0"), 0);
        });
        promise(2, "A SHOOTER: its number.", () -> {
            FootKeeper x = new FootKeeper();
            for (int i = 0; i < 6; i++) {
                sheet.due("number", x.shooter(6 - i, i), i);
            }
        });
        promise(2, "NONE: kind;", () -> {
            for (int kind : new int[] {-1, 7, MAX, MIN}) {
                sheet.due("kind " + kind, new FootKeeper().shooter(kind, 0), NONE);
            }
            sheet.due("kind 0", new FootKeeper().shooter(0, 0), 0);
            sheet.due("kind 6", new FootKeeper().shooter(6, 0), 0);
        });
        promise(2, "BAD: v;", () -> {
            for (int v : new int[] {-1, 10, MAX, MIN}) {
                sheet.due("v " + v, new FootKeeper().shooter(0, v), BAD);
            }
            sheet.due("v 0", new FootKeeper().shooter(6, 0), 0);
            sheet.due("v 9", new FootKeeper().shooter(6, 9), 0);
        });
        promise(2, "FULL: 6.", () -> {
            FootKeeper x = Sheet.with("", 0, 0, 0, 0, 0, 0, 0, 0, 0, 0);
            sheet.due("the sixth", x.shooter(0, 0), 5);
            sheet.due("a seventh", x.shooter(0, 0), FULL);
            sheet.due("six", x.count(0), 6);
        });
        promise(3, "Of a SHOOTER what 0 KIND, 1 v, 2 LAST, 3 SHOTS, 4 GOALS, 5 AIM, 6 the NOTE's SIDE, 10 and s SURE, 20 and s"
                + " SAVES of SIDE s.", () -> {
            FootKeeper x = Sheet.with("in 50 p=1;in 1 s=1;in 2 s=2;save 3 p=1;save 4 s=1;save 8 s=2;right n=1", 0, 0, 2, 7);
            x.shoot(1, 0);
            int[] want = {2, 7, 1, 1, 1, 1, 2, NONE, NONE, NONE, 50, 51, 52, NONE, NONE, NONE, NONE, NONE, NONE, NONE, 3, 7, 11,
                NONE, NONE};
            for (int what = 0; what < want.length; what++) {
                sheet.due("what " + what, x.of(1, what), want[what]);
            }
        });
        promise(3, "NONE.", () -> {
            FootKeeper x = two();
            for (int shooter : NO_ONE) {
                for (int what : new int[] {0, 1, 2, 3, 4, 5, 6, 10, 12, 20, 22}) {
                    sheet.due("of(" + shooter + ", " + what + ")", x.of(shooter, what), NONE);
                }
            }
            for (int what : new int[] {-1, 7, 9, 13, 19, 23, 30, MAX, MIN}) {
                sheet.due("of(0, " + what + ")", x.of(0, what), NONE);
            }
        });
        promise(4, "LAST of a SHOOTER becomes a SIDE, or 3: what it was.", () -> {
            FootKeeper x = two();
            int was = 3;
            for (int side : new int[] {3, 0, 1, 2, 3, 2}) {
                sheet.due("what it was", x.last(0, side), was);
                sheet.due("LAST", x.of(0, 2), side);
                was = side;
            }
            sheet.due("the other's", x.of(1, 2), 3);
        });
        promise(4, "NONE.", () -> {
            FootKeeper x = two();
            x.last(0, 1);
            for (int shooter : NO_ONE) {
                sheet.due("last(" + shooter + ", 0)", x.last(shooter, 0), NONE);
            }
            for (int side : new int[] {-1, 4, MAX, MIN}) {
                sheet.due("last(0, " + side + ")", x.last(0, side), NONE);
            }
            sheet.due("LAST stays", x.of(0, 2), 1);
        });
        promise(5, "The ROW of a TOLD one becomes a SIDE for SHOTS modulo 4 being part: what it was.", () -> {
            FootKeeper x = Sheet.with("stay p<9", 6, 0, 6, 0);
            for (int part = 0; part < 4; part++) {
                sheet.due("0 at first", x.row(0, part, 2 - part % 3), 0);
            }
            for (int shots = 0; shots < 9; shots++) {
                sheet.due("AIM after " + shots, x.of(0, 5), 2 - shots % 4 % 3);
                x.shoot(0, 99);
            }
            sheet.due("what it was", x.row(0, 3, 0), 2);
            sheet.due("the other's", x.row(1, 0, 1), 0);
            FootKeeper y = Sheet.with("", 6, 0, 6, 0, 6, 0, 6, 0, 6, 0, 6, 0);
            for (int i = 0; i < 48; i++) {
                // the second time around each is asked what the first left
                int was = i < 24 ? 0 : (i - 24) * 7 % 3;
                sheet.due("of six, " + i, y.row(i % 24 / 4, i % 4, i * 7 % 3), was);
            }
        });
        promise(5, "NONE: shooter, part;", () -> {
            FootKeeper x = Sheet.with("", 6, 0, 6, 0);
            for (int shooter : NO_ONE) {
                sheet.due("row(" + shooter + ", 0, 1)", x.row(shooter, 0, 1), NONE);
            }
            for (int part : new int[] {-1, 4, MAX, MIN}) {
                sheet.due("row(0, " + part + ", 1)", x.row(0, part, 1), NONE);
            }
        });
        promise(5, "BAD: n;", () -> {
            FootKeeper x = Sheet.with("", 6, 0);
            for (int n : new int[] {-1, 3, MAX, MIN}) {
                sheet.due("row(0, 0, " + n + ")", x.row(0, 0, n), BAD);
            }
        });
        promise(5, "STATE: another KIND.", () -> {
            for (int kind = 0; kind < 6; kind++) {
                sheet.due("KIND " + kind, Sheet.with("", kind, 0).row(0, 0, 1), STATE);
            }
            sheet.due("TOLD", Sheet.with("", 6, 0).row(0, 0, 1), 0);
        });
    }

    private void grounds() {
        promise(6, "A sign (0 .. 127) comes behind THE TEXT's: how many it has.", () -> {
            FootKeeper x = new FootKeeper();
            sheet.due("0", x.feed(0), 1);
            sheet.due("127", x.feed(127), 2);
            for (int i = 2; i < 100; i++) {
                sheet.due("feed", x.feed('p'), i + 1);
            }
        });
        promise(6, "BAD;", () -> {
            FootKeeper x = new FootKeeper();
            for (int sign : new int[] {-1, 128, 256 + 'p', MAX, MIN}) {
                sheet.due("feed(" + sign + ")", x.feed(sign), BAD);
            }
            sheet.due("none came", x.count(5), 0);
        });
        promise(6, "FULL.", () -> {
            FootKeeper x = new FootKeeper();
            Sheet.feed(x, "p".repeat(99));
            sheet.due("the hundredth", x.feed('p'), 100);
            sheet.due("one more", x.feed('p'), FULL);
            sheet.due("a hundred", x.count(5), 100);
        });
        promise(7, "THE TEXT, which is empty then, is a GROUND, and holds: its number.", () -> {
            FootKeeper x = two();
            for (int i = 0; i < 6; i++) {
                sheet.due("number", Sheet.ground(x, "in " + (i + 1) + " p=0"), i);
                sheet.due("empty then", x.count(5), 0);
                sheet.due("it holds", x.of(0, 10), i + 1);
            }
            FootKeeper y = two();
            Sheet.ground(y, "in 5 p=0");
            sheet.due("an empty text is none", y.ground(), -10);
        });
        promise(7, "FULL: there are 6 (THE TEXT stays);", () -> {
            FootKeeper x = two();
            for (int i = 0; i < 6; i++) {
                Sheet.ground(x, "in 9 p=0");
            }
            sheet.due("full, no text", x.ground(), FULL);
            Sheet.feed(x, "in 5 p=0");
            sheet.due("full, a ground", x.ground(), FULL);
            sheet.due("THE TEXT stays", x.count(5), 8);
            sheet.due("more comes behind it", x.feed(';'), 9);
            sheet.due("full, a fault", x.ground(), FULL);
            sheet.due("the sixth holds", x.of(0, 10), 9);
        });
        promise(7, "-10 less the FAULT (the one that held holds).", () -> {
            FootKeeper x = two();
            sheet.due("at 0", Sheet.ground(x, "x"), -10);
            sheet.due("none holds", x.of(0, 10), 80);
            sheet.due("a ground", Sheet.ground(x, "in 5 p=0"), 0);
            sheet.due("behind a clause that is whole", Sheet.ground(x, "in 7 p=0;in 8 p=0)"), -27);
            sheet.due("the one that held holds", x.of(0, 10), 5);
            sheet.due("there is one", x.count(1), 1);
            sheet.due("THE TEXT is empty", x.count(5), 0);
            sheet.due("at the end of a full one", Sheet.ground(x, "in 7 p=0" + "&p=0".repeat(22) + "&p=0"), 1);
            sheet.due("at 100", Sheet.ground(x, "in 7 p=0" + "&p=0".repeat(22) + "|p<="), -109);
            sheet.due("too early, at 100", Sheet.ground(x, "in 77 p=0" + "&p=0".repeat(22) + "|p<"), -110);
        });
    }

    private void shots() {
        promise(8, "What 0 SHOTS, 1 GOALS of all.", () -> {
            FootKeeper x = two();
            x.shoot(0, 0);
            x.shoot(1, 99);
            x.shoot(1, 99);
            sheet.due("SHOTS", x.told(0), 3);
            sheet.due("GOALS", x.told(1), 1);
        });
        promise(8, "NONE.", () -> {
            for (int what : NO_HALF) {
                sheet.due("told(" + what + ")", new FootKeeper().told(what), NONE);
            }
        });
        promise(9, "CHANCE by a SIDE and a DIVE.", () -> {
            FootKeeper x = Sheet.with("in 30 p=0;in 5 s=2;save 9 s=0;save 30 s=1;save 36 s=2", 0, 0);
            int[] want = {21, 30, 30, 30, 0, 30, 35, 35, 0};
            for (int i = 0; i < 9; i++) {
                sheet.due("by " + i / 3 + " and " + i % 3, x.chance(0, i / 3, i % 3), want[i]);
            }
            FootKeeper y = Sheet.with("in 9 n=0;in 30 n=1;save 5 n=1", 0, 0);
            y.shoot(0, 99);
            sheet.due("after a shot", y.chance(0, 0, 1), 30);
            sheet.due("after a shot, the same", y.chance(0, 1, 1), 25);
        });
        promise(9, "NONE.", () -> {
            FootKeeper x = two();
            for (int shooter : NO_ONE) {
                sheet.due("shooter " + shooter, x.chance(shooter, 0, 0), NONE);
            }
            for (int side : new int[] {-1, 3, MAX, MIN}) {
                sheet.due("side " + side, x.chance(0, side, 0), NONE);
                sheet.due("dive " + side, x.chance(0, 0, side), NONE);
            }
        });
        promise(10, "A SHOT: the SIDE, and 10 more, if it is IN.", () -> {
            FootKeeper x = Sheet.with("in 50 p<9;save 0 p<9", 0, 0, 0, 1, 0, 2);
            for (int side = 0; side < 3; side++) {
                sheet.due("49", x.shoot(side, 49), 10 + side);
                sheet.due("50", x.shoot(side, 50), side);
            }
        });
        promise(10, "NONE;", () -> {
            FootKeeper x = two();
            for (int shooter : NO_ONE) {
                sheet.due("shoot(" + shooter + ", 0)", x.shoot(shooter, 0), NONE);
            }
            sheet.due("no shots", x.told(0), 0);
        });
        promise(10, "BAD: draw;", () -> {
            FootKeeper x = two();
            for (int draw : new int[] {-1, 100, MAX, MIN}) {
                sheet.due("shoot(0, " + draw + ")", x.shoot(0, draw), BAD);
            }
            sheet.due("no shots", x.told(0), 0);
        });
        promise(10, "STATE: SHOTS of all are 999.", () -> {
            // More calls than an object is promised for: 999 is not to be reached with fewer
            FootKeeper x = two();
            Sheet.shoot(x, 0, 99, 998);
            sheet.due("the 999th", x.shoot(0, 99), 0);
            sheet.due("one more", x.shoot(1, 99), STATE);
            sheet.due("SHOTS of all", x.told(0), 999);
            sheet.due("SHOTS of the other", x.of(1, 3), 0);
            x.anew();
            sheet.due("anew", x.shoot(1, 99), 1);
        });
        promise(11, "THE ROUND is begun anew: SHOTS, GOALS of all are 0 (those of each stay): how many GOALS of all there were.",
                () -> {
            FootKeeper x = two();
            sheet.due("none", x.anew(), 0);
            x.shoot(0, 0);
            x.shoot(0, 0);
            x.shoot(1, 99);
            sheet.due("two", x.anew(), 2);
            sheet.due("SHOTS of all", x.told(0), 0);
            sheet.due("GOALS of all", x.told(1), 0);
            sheet.due("SHOTS of the first", x.of(0, 3), 2);
            sheet.due("GOALS of the first", x.of(0, 4), 2);
            sheet.due("SHOTS of the second", x.of(1, 3), 1);
            sheet.due("again", x.anew(), 0);
        });
    }

    private void sides() {
        promise(12, "BEST: what 0 the SIDE, 1 CHANCE.", () -> {
            FootKeeper x = two();
            x.last(0, 0);
            sheet.due("the SIDE", x.best(0, 0), 1);
            sheet.due("CHANCE", x.best(0, 1), 80);
        });
        promise(12, "NONE.", () -> {
            FootKeeper x = two();
            for (int what : NO_HALF) {
                sheet.due("best(0, " + what + ")", x.best(0, what), NONE);
            }
            for (int shooter : NO_ONE) {
                sheet.due("best(" + shooter + ", 0)", x.best(shooter, 0), NONE);
                sheet.due("best(" + shooter + ", 1)", x.best(shooter, 1), NONE);
            }
        });
        promise(13, "MIX: what 0 which, 1 the sum.", () -> {
            FootKeeper x = two();
            sheet.due("which", x.mix(0, 0), 244);
            sheet.due("the sum", x.mix(0, 1), 640);
        });
        promise(13, "NONE.", () -> {
            FootKeeper x = two();
            for (int what : NO_HALF) {
                sheet.due("mix(0, " + what + ")", x.mix(0, what), NONE);
            }
            for (int shooter : NO_ONE) {
                sheet.due("mix(" + shooter + ", 0)", x.mix(shooter, 0), NONE);
                sheet.due("mix(" + shooter + ", 1)", x.mix(shooter, 1), NONE);
            }
        });
    }

    private void rows() {
        promise(14, "A SHOOTER comes to THE ROW: how many there are (-1: none then, 0).", () -> {
            FootKeeper x = two();
            sheet.due("none to take away", x.line(-1), 0);
            sheet.due("one", x.line(1), 1);
            sheet.due("two", x.line(0), 2);
            sheet.due("none then", x.line(-1), 0);
            sheet.due("none", x.count(2), 0);
            sheet.due("one again", x.line(0), 1);
            sheet.due("with nobody", new FootKeeper().line(-1), 0);
        });
        promise(14, "NONE;", () -> {
            FootKeeper x = two();
            for (int shooter : NO_ONE) {
                sheet.due("line(" + shooter + ")", x.line(shooter), shooter == -1 ? 0 : NONE);
            }
            sheet.due("none came", x.count(2), 0);
            sheet.due("nobody", new FootKeeper().line(0), NONE);
        });
        promise(14, "FULL: 4.", () -> {
            FootKeeper x = two();
            Sheet.line(x, 0, 1, 0);
            sheet.due("the fourth", x.line(1), 4);
            sheet.due("a fifth", x.line(0), FULL);
            sheet.due("four", x.count(2), 4);
        });
        promise(15, "NO: g, part.", () -> {
            FootKeeper x = two();
            for (int g : new int[] {-1, 5, MAX, MIN}) {
                sheet.due("likely(" + g + ", 0)", x.likely(g, 0), NO);
                sheet.due("likely(" + g + ", 1)", x.likely(g, 1), NO);
            }
            for (int part : NO_HALF) {
                sheet.due("likely(0, " + part + ")", x.likely(0, part), NO);
            }
            sheet.due("g 0", x.likely(0, 0), 1);
            sheet.due("g 4, more than there are", x.likely(4, 0), 0);
            sheet.due("part 1", x.likely(4, 1), 1);
        });
        promise(16, "ORDER; -5.", () -> {
            FootKeeper x = two();
            sheet.due("an empty row", x.order(0), -5);
            Sheet.line(x, 0, 1);
            sheet.due("0", x.order(0), 0);
            sheet.due("1", x.order(1), 1);
            sheet.due("2", x.order(2), -5);
            sheet.due("3", x.order(3), -5);
        });
        promise(16, "NONE: k (0 .. 3).", () -> {
            FootKeeper x = two();
            for (int k : new int[] {-1, 4, 5, MAX, MIN}) {
                sheet.due("an empty row, " + k, x.order(k), NONE);
            }
            Sheet.line(x, 0, 0, 0, 0);
            for (int k : new int[] {-1, 4, 5, MAX, MIN}) {
                sheet.due("a full row, " + k, x.order(k), NONE);
            }
            sheet.due("3", x.order(3), 3);
        });
        promise(17, "WIN: what 0 more, 1 as many.", () -> {
            FootKeeper x = two();
            x.line(0);
            sheet.due("more", x.win(50, 0, 0), 2);
            sheet.due("of", x.win(50, 0, 1), 5);
            sheet.due("as many", x.win(50, 1, 0), 1);
            sheet.due("of", x.win(50, 1, 1), 2);
        });
        promise(17, "NO: q, what, part.", () -> {
            FootKeeper x = two();
            for (int q : new int[] {-1, 101, MAX, MIN}) {
                sheet.due("q " + q, x.win(q, 0, 0), NO);
                sheet.due("q " + q, x.win(q, 1, 1), NO);
            }
            for (int half : NO_HALF) {
                sheet.due("what " + half, x.win(50, half, 0), NO);
                sheet.due("part " + half, x.win(50, 0, half), NO);
            }
            sheet.due("q 0", x.win(0, 1, 0), 1);
            sheet.due("q 100", x.win(100, 1, 0), 1);
        });
    }

    private void notes() {
        promise(18, "-1001: NONE.", () -> {
            FootKeeper x = two();
            for (int shooter : NO_ONE) {
                sheet.due("worth(" + shooter + ")", x.worth(shooter), -1001);
            }
            x.last(1, 0);
            sheet.due("below 0 is no refusal", x.worth(1), -40);
        });
        promise(19, "-1001: NONE.", () -> {
            FootKeeper x = Sheet.with("in 9 s=0;save 0 p<9", 0, 0, 0, 1);
            for (int shooter : NO_ONE) {
                sheet.due("stop(" + shooter + ")", x.stop(shooter), -1001);
            }
            x.last(0, 0);
            sheet.due("below 0 is no refusal", x.stop(0), -9);
        });
        promise(20, "FORGET: what 0 the LAST, 1 CHANCE.", () -> {
            FootKeeper x = two();
            sheet.due("the LAST", x.forget(0, 0), 1);
            sheet.due("CHANCE", x.forget(0, 1), 80);
        });
        promise(20, "NONE.", () -> {
            FootKeeper x = two();
            for (int what : NO_HALF) {
                sheet.due("forget(0, " + what + ")", x.forget(0, what), NONE);
            }
            for (int shooter : NO_ONE) {
                sheet.due("forget(" + shooter + ", 0)", x.forget(shooter, 0), NONE);
                sheet.due("forget(" + shooter + ", 1)", x.forget(shooter, 1), NONE);
            }
        });
        promise(21, "NONE;", () -> {
            FootKeeper x = two();
            for (int shooter : NO_ONE) {
                sheet.due("caught(" + shooter + ", 0)", x.caught(shooter, 0), NONE);
                sheet.due("caught(" + shooter + ", 20)", x.caught(shooter, 20), NONE);
            }
        });
        promise(21, "BAD: n.", () -> {
            FootKeeper x = two();
            for (int n : new int[] {-1, 21, MAX, MIN}) {
                sheet.due("caught(0, " + n + ")", x.caught(0, n), BAD);
            }
            sheet.due("0", x.caught(0, 0), 0);
            sheet.due("20", x.caught(0, 20), 19);
        });
    }

    private void seen() {
        promise(22, "A SIDE is SEEN: how many there are (-1: none then, 0).", () -> {
            FootKeeper x = new FootKeeper();
            sheet.due("none to take away", x.see(-1), 0);
            sheet.due("one", x.see(0), 1);
            sheet.due("two", x.see(2), 2);
            sheet.due("none then", x.see(-1), 0);
            sheet.due("none", x.count(3), 0);
            sheet.due("one again", x.see(1), 1);
        });
        promise(22, "NONE;", () -> {
            FootKeeper x = new FootKeeper();
            for (int side : new int[] {-2, 3, MAX, MIN}) {
                sheet.due("see(" + side + ")", x.see(side), NONE);
            }
            sheet.due("none seen", x.count(3), 0);
        });
        promise(22, "FULL: 6.", () -> {
            FootKeeper x = new FootKeeper();
            Sheet.see(x, 0, 0, 0, 0, 0);
            sheet.due("the sixth", x.see(0), 6);
            sheet.due("a seventh", x.see(0), FULL);
            sheet.due("six", x.count(3), 6);
        });
        promise(23, "WHO, as bits.", () -> {
            FootKeeper x = new FootKeeper();
            for (int i = 0; i < 6; i++) {
                sheet.due("all of " + i, x.who(), (1 << i) - 1);
                x.shooter(0, i % 3);
            }
            for (int side = 0; side < 3; side++) {
                Sheet.see(x, -1, side);
                sheet.due("who goes to " + side, x.who(), 9 << side);
            }
        });
        promise(24, "ODDS; part likewise.", () -> {
            FootKeeper x = two();
            sheet.due("above", x.odds(1, 0), 2);
            sheet.due("below", x.odds(1, 1), 3);
        });
        promise(24, "NO.", () -> {
            FootKeeper x = two();
            for (int shooter : NO_ONE) {
                sheet.due("odds(" + shooter + ", 0)", x.odds(shooter, 0), NO);
                sheet.due("odds(" + shooter + ", 1)", x.odds(shooter, 1), NO);
            }
            for (int part : NO_HALF) {
                sheet.due("odds(0, " + part + ")", x.odds(0, part), NO);
            }
        });
        promise(25, "MEAN; part likewise.", () -> {
            FootKeeper x = two();
            sheet.due("above", x.mean(0), 60);
            sheet.due("below", x.mean(1), 1);
        });
        promise(25, "NO.", () -> {
            for (int part : NO_HALF) {
                sheet.due("mean(" + part + ")", two().mean(part), NO);
                sheet.due("nobody, mean(" + part + ")", new FootKeeper().mean(part), NO);
            }
            sheet.due("nobody, above", new FootKeeper().mean(0), NO);
            sheet.due("nobody, below", new FootKeeper().mean(1), NO);
        });
    }

    private void books() {
        promise(26, "A row comes to the BOOK: how many there are (shooter -1: it is empty then, 0, whatever the other is).", () -> {
            FootKeeper x = two();
            for (int draw : new int[] {0, 99, -1, 100, MAX, MIN}) {
                sheet.due("one", x.book(0, 0), 1);
                sheet.due("two", x.book(1, 99), 2);
                sheet.due("empty then", x.book(-1, draw), 0);
                sheet.due("none", x.count(4), 0);
            }
            x.book(0, 99);
            sheet.due("none of the DRAWS that were", x.looked(), 0);
            sheet.due("with nobody", new FootKeeper().book(-1, 0), 0);
        });
        promise(26, "NONE;", () -> {
            FootKeeper x = two();
            for (int shooter : NO_ONE) {
                sheet.due("book(" + shooter + ", 0)", x.book(shooter, 0), shooter == -1 ? 0 : NONE);
            }
            sheet.due("none came", x.count(4), 0);
        });
        promise(26, "BAD: draw;", () -> {
            FootKeeper x = two();
            for (int draw : new int[] {-1, 100, MAX, MIN}) {
                sheet.due("book(0, " + draw + ")", x.book(0, draw), BAD);
            }
            sheet.due("none came", x.count(4), 0);
            sheet.due("0", x.book(0, 0), 1);
            sheet.due("99", x.book(0, 99), 2);
        });
        promise(26, "FULL: 10.", () -> {
            FootKeeper x = two();
            for (int i = 0; i < 9; i++) {
                x.book(0, i);
            }
            sheet.due("the tenth", x.book(0, 0), 10);
            sheet.due("an eleventh", x.book(0, 0), FULL);
            sheet.due("ten", x.count(4), 10);
            sheet.due("all are in", x.looked(), -5);
        });
        promise(27, "LOOKED at; -5.", () -> {
            FootKeeper x = two();
            sheet.due("an empty book", x.looked(), -5);
            x.book(0, 79);
            sheet.due("all are in", x.looked(), -5);
            x.book(0, 40);
            sheet.due("the second is not", x.looked(), 1);
            FootKeeper y = two();
            y.book(0, 80);
            sheet.due("the first is not", y.looked(), 0);
        });
        promise(28, "NONE: tape;", () -> {
            FootKeeper x = two();
            for (int tape : new int[] {-1, 6, MAX, MIN}) {
                sheet.due("judge(" + tape + ", 0)", x.judge(tape, 0), NONE);
            }
            sheet.due("tape 5", x.judge(5, 0), 100);
        });
        promise(28, "CAST: it is no row of bytes.", () -> {
            FootKeeper x = two();
            int[] want = {-5, CAST, CAST, CAST, CAST};
            for (int sort = 0; sort < 5; sort++) {
                x.tape(0, sort, 2);
                x.last(0, 0);
                x.last(1, 0);
                sheet.due("sort " + sort, x.judge(0, 0), want[sort]);
            }
        });
    }

    private void images() {
        promise(29, "THE IMAGE is taken: how many SHOOTERS there are.", () -> {
            FootKeeper x = new FootKeeper();
            for (int i = 0; i < 7; i++) {
                sheet.due("image", x.image(), i);
                x.shooter(0, 0);
            }
            FootKeeper y = two();
            y.image();
            y.last(0, 1);
            y.image();
            y.last(0, 2);
            y.undo();
            sheet.due("the newer one", y.of(0, 2), 1);
        });
        promise(30, "All is as THE IMAGE: how many SHOOTERS.", () -> {
            FootKeeper x = new FootKeeper();
            x.image();
            x.shooter(0, 0);
            sheet.due("nobody", x.undo(), 0);
            sheet.due("nobody", x.of(0, 0), NONE);
            for (int i = 0; i < 6; i++) {
                x.shooter(i, i);
            }
            x.image();
            x.shoot(5, 0);
            sheet.due("all six", x.undo(), 6);
            sheet.due("no shots", x.told(0), 0);
            x.shoot(4, 0);
            sheet.due("again", x.undo(), 6);
            sheet.due("no shots again", x.of(4, 3), 0);
            sheet.due("full", x.shooter(0, 0), FULL);
        });
        promise(30, "STATE: there is none.", () -> {
            FootKeeper x = two();
            sheet.due("undo", x.undo(), STATE);
            sheet.due("two stay", x.count(0), 2);
            x.image();
            sheet.due("there is one", x.undo(), 2);
        });
    }

    private void acts() {
        promise(31, "An ACT (0 aims, 1 shows, 2 tells) of a SHOOTER with x.", () -> {
            FootKeeper x = Sheet.with("", 0, 0, 0, 7);
            sheet.due("aims", x.act(1, 0, MAX), MIN);
            sheet.due("shows", x.act(1, 1, MIN), MAX - 5);
            sheet.due("tells", x.act(1, 2, MIN), -12);
        });
        promise(31, "0, and no TRACE then: no such SHOOTER, act.", () -> {
            FootKeeper x = two();
            for (int shooter : NO_ONE) {
                x.act(0, 2, 5);
                sheet.due("shooter " + shooter, x.act(shooter, 0, 5), 0);
                sheet.due("no bodies", x.count(6), 0);
                sheet.due("no TRACE", x.trace(0), NONE);
            }
            for (int act : new int[] {-1, 3, MAX, MIN}) {
                x.act(0, 2, 5);
                sheet.due("act " + act, x.act(0, act, 5), 0);
                sheet.due("no bodies", x.count(6), 0);
                sheet.due("no TRACE", x.trace(0), NONE);
            }
        });
        promise(32, "THE TRACE's i-th body.", () -> {
            FootKeeper x = two();
            x.act(0, 2, 5);
            sheet.due("0", x.trace(0), 12);
            sheet.due("1", x.trace(1), 11);
            sheet.due("2", x.trace(2), 10);
        });
        promise(32, "NONE.", () -> {
            FootKeeper x = two();
            sheet.due("no act yet", x.trace(0), NONE);
            x.act(0, 2, 5);
            x.act(0, 0, 5);
            for (int i : new int[] {-1, 1, 2, 20, MAX, MIN}) {
                sheet.due("trace(" + i + ")", x.trace(i), NONE);
            }
        });
        promise(33, "A SHOOTER taken for one of KIND k (0 .. 6), or one under that: its KIND.", () -> {
            int[][] is = {{0}, {0, 1}, {0, 2}, {0, 3}, {0, 1, 4}, {0, 2, 5}, {0, 3, 6}};
            for (int kind = 0; kind < 7; kind++) {
                for (int k : is[kind]) {
                    sheet.due(kind + " for " + k, Sheet.with("", kind, 0).taken(0, k), kind);
                }
            }
        });
        promise(33, "BAD: k;", () -> {
            for (int k : new int[] {-1, 7, MAX, MIN}) {
                sheet.due("taken(0, " + k + ")", two().taken(0, k), BAD);
            }
        });
        promise(33, "NOTHING: no such SHOOTER;", () -> {
            for (int shooter : NO_ONE) {
                sheet.due("taken(" + shooter + ", 0)", two().taken(shooter, 0), NOTHING);
            }
        });
        promise(33, "CAST.", () -> {
            int[][] isNot = {{1, 2, 3, 4, 5, 6}, {2, 3, 4, 5, 6}, {1, 3, 4, 5, 6}, {1, 2, 4, 5, 6}, {2, 3, 5, 6}, {1, 3, 4, 6},
                {1, 2, 4, 5}};
            for (int kind = 0; kind < 7; kind++) {
                for (int k : isNot[kind]) {
                    sheet.due(kind + " for " + k, Sheet.with("", kind, 0).taken(0, k), CAST);
                }
            }
        });
        promise(34, "How many: 0 SHOOTERS, 1 GROUNDS, 2 of THE ROW, 3 SEEN, 4 of the BOOK, 5 bytes of THE TEXT, 6 bodies that"
                + " ran in the latest act() (all, kept or not).", () -> {
            FootKeeper x = HostTests.full();
            x.act(0, 2, 0);
            int[] want = {6, 6, 4, 6, 10, 100, 12};
            for (int what = 0; what < 7; what++) {
                sheet.due("count(" + what + "), full", x.count(what), want[what]);
                sheet.due("count(" + what + "), empty", new FootKeeper().count(what), 0);
            }
        });
        promise(34, "BAD.", () -> {
            for (int what : new int[] {-1, 7, MAX, MIN}) {
                sheet.due("count(" + what + ")", two().count(what), BAD);
            }
        });
    }

    private void tapes() {
        promise(35, "A TAPE becomes a row of n (0 .. 60) of a sort, all 0, or holds nothing (sort -1: n does not matter): 1.", () -> {
            FootKeeper x = new FootKeeper();
            for (int sort = 0; sort < 5; sort++) {
                sheet.due("60", x.tape(sort, sort, 60), 1);
                sheet.due("the last item", x.item(sort, 59, 1), 1);
                sheet.due("none behind it", x.item(sort, 60, 1), PLACE);
                sheet.due("60 again", x.tape(sort, sort, 60), 1);
                sheet.due("all 0", x.read(sort, 59), 0);
                sheet.due("0", x.tape(sort, sort, 0), 1);
                sheet.due("no place", x.item(sort, 0, 1), PLACE);
                sheet.due("none to read", x.read(sort, 0), NO);
            }
            for (int n : new int[] {-1, 0, 60, 61, MAX, MIN}) {
                x.tape(0, 0, 1);
                sheet.due("nothing, n " + n, x.tape(0, -1, n), 1);
                sheet.due("nothing is there", x.item(0, 0, 1), NOTHING);
            }
            x.tape(0, 0, 3);
            x.item(0, 2, 7);
            x.tape(0, -1, 0);
            x.tape(0, 3, 3);
            sheet.due("all 0, after nothing", x.read(0, 2), 0);
        });
        promise(35, "NONE: tape;", () -> {
            for (int tape : new int[] {-1, 6, MAX, MIN}) {
                sheet.due("tape(" + tape + ", 0, 1)", new FootKeeper().tape(tape, 0, 1), NONE);
                sheet.due("tape(" + tape + ", -1, 1)", new FootKeeper().tape(tape, -1, 1), NONE);
            }
        });
        promise(35, "BAD: sort, n above 60;", () -> {
            for (int sort : new int[] {-2, 5, MAX, MIN}) {
                sheet.due("tape(0, " + sort + ", 1)", new FootKeeper().tape(0, sort, 1), BAD);
            }
            for (int n : new int[] {61, MAX}) {
                sheet.due("tape(0, 0, " + n + ")", new FootKeeper().tape(0, 0, n), BAD);
                sheet.due("tape(0, 4, " + n + ")", new FootKeeper().tape(0, 4, n), BAD);
            }
        });
        promise(35, "SIZE.", () -> {
            for (int n : new int[] {-1, -60, MIN}) {
                sheet.due("tape(0, 0, " + n + ")", new FootKeeper().tape(0, 0, n), SIZE);
            }
        });
        promise(36, "Item i of a TAPE becomes v (its lowest bits, as many as an item has; booleans: whether v is not 0): 1.", () -> {
            long v = 0x123456789ABCDEF0L;
            long[] want = {(byte) 0xF0, (short) 0xDEF0, 0x9ABCDEF0, v, 1};
            FootKeeper x = new FootKeeper();
            for (int sort = 0; sort < 5; sort++) {
                x.tape(sort, sort, 3);
                sheet.due("item", x.item(sort, 1, v), 1);
                sheet.dueAll("sort " + sort, Sheet.items(x, sort, 3), 0, want[sort], 0);
                sheet.due("item", x.item(sort, 1, 0), 1);
                sheet.due("0 again", x.read(sort, 1), 0);
            }
            x.item(4, 0, 1L << 63);
            sheet.due("not 0 in its highest bit alone", x.read(4, 0), 1);
        });
        promise(36, "NONE;", () -> {
            for (int tape : new int[] {-1, 6, MAX, MIN}) {
                sheet.due("item(" + tape + ", 0, 0)", new FootKeeper().item(tape, 0, 0), NONE);
            }
        });
        promise(36, "NOTHING;", () -> {
            FootKeeper x = new FootKeeper();
            sheet.due("at first", x.item(5, 0, 0), NOTHING);
            x.tape(5, 0, 1);
            sheet.due("something", x.item(5, 0, 0), 1);
            x.tape(5, -1, 1);
            sheet.due("nothing again", x.item(5, 0, 0), NOTHING);
        });
        promise(36, "PLACE.", () -> {
            FootKeeper x = new FootKeeper();
            x.tape(0, 0, 3);
            for (int i : new int[] {-1, 3, 59, 60, MAX, MIN}) {
                sheet.due("item(0, " + i + ", 0)", x.item(0, i, 0), PLACE);
            }
            sheet.due("the last", x.item(0, 2, 0), 1);
        });
        promise(37, "NO: no such TAPE, nothing there, no such place.", () -> {
            FootKeeper x = new FootKeeper();
            x.tape(0, 3, 3);
            for (int tape : new int[] {-1, 6, MAX, MIN}) {
                sheet.due("read(" + tape + ", 0)", x.read(tape, 0), NO);
            }
            sheet.due("nothing there", x.read(1, 0), NO);
            for (int i : new int[] {-1, 3, 59, 60, MAX, MIN}) {
                sheet.due("read(0, " + i + ")", x.read(0, i), NO);
            }
            sheet.due("the last", x.read(0, 2), 0);
            x.item(0, 2, NO);
            sheet.due("an item that is as NO", x.read(0, 2), NO);
        });
        promise(38, "n items of a TAPE from i on come to another one (or the same) from j on, as they all were before: n.",
                this::shifted);
        promise(38, "NONE: tapes;", () -> {
            FootKeeper x = new FootKeeper();
            x.tape(0, 0, 3);
            for (int tape : new int[] {-1, 6, MAX, MIN}) {
                sheet.due("from " + tape, x.shift(tape, 0, 0, 0, 1), NONE);
                sheet.due("to " + tape, x.shift(0, 0, tape, 0, 1), NONE);
            }
        });
        promise(38, "NOTHING;", () -> {
            FootKeeper x = new FootKeeper();
            x.tape(0, 0, 3);
            sheet.due("here", x.shift(1, 0, 0, 0, 0), NOTHING);
            sheet.due("there", x.shift(0, 0, 1, 0, 0), NOTHING);
            sheet.due("both", x.shift(1, 0, 1, 0, 0), NOTHING);
        });
        promise(38, "CAST: of unlike sorts;", () -> {
            FootKeeper x = new FootKeeper();
            for (int sort = 0; sort < 5; sort++) {
                x.tape(sort, sort, 3);
            }
            x.tape(5, 4, 2);
            for (int i = 0; i < 25; i++) {
                sheet.due(i / 5 + " to " + i % 5, x.shift(i / 5, 0, i % 5, 0, 0), i / 5 == i % 5 ? 0 : CAST);
            }
            sheet.due("of like sorts", x.shift(4, 0, 5, 0, 2), 2);
        });
        promise(38, "PLACE: n, i or j is below 0, or beyond either's end.", () -> {
            FootKeeper x = new FootKeeper();
            x.tape(0, 2, 4);
            x.tape(1, 2, 3);
            int[][] bad = {{-1, 0, 1}, {0, -1, 1}, {0, 0, -1}, {4, 0, 1}, {3, 0, 2}, {0, 3, 1}, {0, 2, 2}, {0, 0, 4}, {5, 0, 0},
                {0, 4, 0}, {MAX, 0, 1}, {0, MAX, 1}, {0, 0, MAX}, {MIN, 0, 1}, {0, MIN, 1}, {0, 0, MIN}, {MAX, MAX, MAX},
                {-1, 0, 0}, {0, -1, 0}, {1, 1, MAX}, {MAX, 0, 0}, {1, 0, -1}, {-2, -2, 3}};
            for (int[] b : bad) {
                sheet.due("shift(0, " + b[0] + ", 1, " + b[1] + ", " + b[2] + ")", x.shift(0, b[0], 1, b[1], b[2]), PLACE);
            }
            sheet.due("none, at both ends", x.shift(0, 4, 1, 3, 0), 0);
            sheet.due("up to both ends", x.shift(0, 1, 1, 0, 3), 3);
        });
    }

    private void shifted() {
        FootKeeper x = new FootKeeper();
        Sheet.tape(x, 0, 2, 1, 2, 3, 4, 5);
        Sheet.tape(x, 1, 2, 7, 8, 9);
        sheet.due("none", x.shift(0, 0, 1, 0, 0), 0);
        sheet.dueAll("none", Sheet.items(x, 1, 3), 7, 8, 9);
        sheet.due("all of the other", x.shift(0, 2, 1, 0, 3), 3);
        sheet.dueAll("all of the other", Sheet.items(x, 1, 3), 3, 4, 5);
        sheet.dueAll("it stays", Sheet.items(x, 0, 5), 1, 2, 3, 4, 5);
        sheet.due("upward in the same", x.shift(0, 0, 0, 1, 4), 4);
        sheet.dueAll("upward in the same", Sheet.items(x, 0, 5), 1, 1, 2, 3, 4);
        sheet.due("downward in the same", x.shift(0, 1, 0, 0, 4), 4);
        sheet.dueAll("downward in the same", Sheet.items(x, 0, 5), 1, 2, 3, 4, 4);
        sheet.due("onto itself", x.shift(0, 0, 0, 0, 5), 5);
        sheet.dueAll("onto itself", Sheet.items(x, 0, 5), 1, 2, 3, 4, 4);
        sheet.due("into the middle", x.shift(1, 2, 0, 1, 1), 1);
        sheet.dueAll("into the middle", Sheet.items(x, 0, 5), 1, 5, 3, 4, 4);
    }

    /** An object that lives through all its calls, each of which takes something and gives it back. */
    private void wholeLife() {
        sheet.test("What it is", "An object is used for at most 512 calls after it has been made", () -> {
            FootKeeper x = Sheet.with("", 0, 0);
            x.image();
            for (int i = 0; i < 127; i++) {
                sheet.due("shooter", x.shooter(i % 7, i % 10), 1);
                sheet.due("line", x.line(1), 1);
                sheet.due("shoot", x.shoot(0, 99), 0);
                sheet.due("undo", x.undo(), 1);
            }
            sheet.due("the last but one", x.count(0), 1);
            FootKeeper y = new FootKeeper();
            for (int i = 0; i < 512; i++) {
                sheet.due("a text that never ends", y.feed(' '), i < 100 ? i + 1 : FULL);
            }
            FootKeeper z = Sheet.with("", 0, 0);
            for (int i = 0; i < 510; i++) {
                sheet.due("shot", z.shoot(0, 0), 10);
            }
            sheet.due("goals of one who shot all its life", z.of(0, 4), 510);
        });
    }

    public static void main(String[] args) throws IOException {
        EdgeTests t = new EdgeTests();
        t.wholeLife();
        t.shooters();
        t.grounds();
        t.shots();
        t.sides();
        t.rows();
        t.notes();
        t.seen();
        t.books();
        t.images();
        t.acts();
        t.tapes();
        for (int number = 1; number <= 38; number++) {
            t.sheet.mustCover("Promise " + number);
        }
        t.sheet.end();
    }
}
