/** One or more tests for each promise, with answers worked out by hand from the document. */
public final class PromiseTests {
    private static final int NONE = -1, BAD = -2, STATE = -3, FULL = -4;
    private static final int NOTHING = -11, CAST = -12, PLACE = -13, SIZE = -14;
    private static final long NO = Long.MIN_VALUE;
    private static int wrong;
    private static int asked;

    private PromiseTests() {
    }

    private static void due(String what, long got, long want) {
        asked++;
        if (got != want) {
            wrong++;
            System.out.println(what + " answered " + got + ", due is " + want);
        }
    }

    private static void feed(FootKeeper x, String text) {
        for (int i = 0; i < text.length(); i++) {
            due("feed " + text + " at " + i, x.feed(text.charAt(i)), i + 1);
        }
    }

    private static int ground(FootKeeper x, String text) {
        feed(x, text);
        return x.ground();
    }

    private static FootKeeper withGround(String text) {
        FootKeeper x = new FootKeeper();
        due("ground " + text, ground(x, text), 0);
        return x;
    }

    private static void fault(String text, int place) {
        FootKeeper x = new FootKeeper();
        due("ground " + text, ground(x, text), -10 - place);
        due("count(1) after a fault", x.count(1), 0);
        due("count(5) after a fault", x.count(5), 0);
    }

    private static void whole(String text) {
        withGround(text);
    }

    private static void bytes(FootKeeper x, int tape, int... items) {
        due("tape", x.tape(tape, 0, items.length), 1);
        for (int i = 0; i < items.length; i++) {
            due("item", x.item(tape, i, items[i]), 1);
        }
    }

    private static void holds(FootKeeper x, String what, int tape, long... items) {
        for (int i = 0; i < items.length; i++) {
            due(what + ": read(" + tape + ", " + i + ")", x.read(tape, i), items[i]);
        }
        due(what + ": read behind the end", x.read(tape, items.length), NO);
    }

    private static void promise1() {
        FootKeeper x = new FootKeeper();
        for (int what = 0; what < 7; what++) {
            due("1: count(" + what + ")", x.count(what), 0);
        }
        due("1: told(0)", x.told(0), 0);
        due("1: told(1)", x.told(1), 0);
        due("1: undo()", x.undo(), STATE);
        due("1: of(0, 0)", x.of(0, 0), NONE);
        for (int tape = 0; tape < 6; tape++) {
            due("1: item", x.item(tape, 0, 1), NOTHING);
        }
        due("1: NONE", FootKeeper.NONE, -1);
        due("1: BAD", FootKeeper.BAD, -2);
        due("1: STATE", FootKeeper.STATE, -3);
        due("1: FULL", FootKeeper.FULL, -4);
        due("1: NO", FootKeeper.NO, Long.MIN_VALUE);
        x.shooter(0, 0);
        due("1: SURE without a ground", x.of(0, 10), 80);
        due("1: SAVES without a ground", x.of(0, 20), 40);
    }

    private static void promise2() {
        FootKeeper x = new FootKeeper();
        due("2: kind too small", x.shooter(-1, 0), NONE);
        due("2: kind too large", x.shooter(7, 0), NONE);
        due("2: kind named ahead of v", x.shooter(7, 10), NONE);
        due("2: v too small", x.shooter(0, -1), BAD);
        due("2: v too large", x.shooter(0, 10), BAD);
        due("2: nobody came", x.count(0), 0);
        int[] kinds = {6, 5, 4, 3, 2, 1};
        for (int i = 0; i < kinds.length; i++) {
            due("2: number", x.shooter(kinds[i], 9 - i), i);
        }
        for (int i = 0; i < kinds.length; i++) {
            due("2: kind", x.of(i, 0), kinds[i]);
            due("2: v", x.of(i, 1), 9 - i);
            due("2: last", x.of(i, 2), 3);
            due("2: shots", x.of(i, 3), 0);
            due("2: goals", x.of(i, 4), 0);
        }
        due("2: full", x.shooter(0, 0), FULL);
        due("2: kind named ahead of full", x.shooter(7, 0), NONE);
        due("2: v named ahead of full", x.shooter(0, 10), BAD);
        due("2: six stay", x.count(0), 6);
    }

    private static void promise3() {
        FootKeeper x = new FootKeeper();
        x.shooter(0, 5);
        int[] no = {-1, 7, 8, 9, 13, 19, 23, Integer.MAX_VALUE, Integer.MIN_VALUE};
        for (int what : no) {
            due("3: of(0, " + what + ")", x.of(0, what), NONE);
        }
        due("3: of(-1, 0)", x.of(-1, 0), NONE);
        due("3: of(1, 0)", x.of(1, 0), NONE);
        due("3: of(6, 0)", x.of(6, 0), NONE);
        due("3: AIM of SHOOTER", x.of(0, 5), 2);
        due("3: NOTE without LAST", x.of(0, 6), 1);
        due("3: shoot", x.shoot(0, 0), 12);
        due("3: LAST", x.of(0, 2), 2);
        due("3: SHOTS", x.of(0, 3), 1);
        due("3: GOALS", x.of(0, 4), 1);
        due("3: NOTE is LAST", x.of(0, 6), 2);
        sureAndSaves();
        letters();
        notes();
        aims();
        toldAims();
    }

    private static void sureAndSaves() {
        FootKeeper x = withGround("in 70 p<9;in 31 s=1;save 60 s>0;save 50 s=2;in 5 s=3;save 9 s=0&p=1");
        x.shooter(0, 0);
        x.shooter(0, 0);
        due("3: SURE 0", x.of(0, 10), 70);
        due("3: SURE 1 is 100 at most", x.of(0, 11), 100);
        due("3: SURE 2", x.of(0, 12), 70);
        due("3: SAVES 0", x.of(0, 20), 0);
        due("3: SAVES 1", x.of(0, 21), 60);
        due("3: SAVES 2 are 100 at most", x.of(0, 22), 100);
        due("3: SAVES 0 of another", x.of(1, 20), 9);
        FootKeeper y = withGround("left p=0");
        y.shooter(0, 0);
        due("3: SURE without in", y.of(0, 10), 80);
        due("3: SAVES without save", y.of(0, 22), 40);
        FootKeeper z = withGround("in 5 p=3;save 5 p=3");
        z.shooter(0, 0);
        due("3: SURE where no in holds", z.of(0, 10), 0);
        due("3: SAVES where no save holds", z.of(0, 20), 0);
    }

    private static void letters() {
        FootKeeper x = withGround("in 1 k=5;in 2 n=1;in 4 g=1;in 8 a=2;in 16 p=1;in 32 s=2");
        x.shooter(0, 0);
        x.shooter(5, 2);
        due("3: k, p, s", x.of(1, 12), 1 + 16 + 32);
        due("3: k, p", x.of(1, 11), 1 + 16);
        due("3: no letter", x.of(0, 10), 0);
        due("3: a shot that is not in", x.shoot(1, 99), 2);
        due("3: n", x.of(1, 10), 1 + 2 + 16);
        due("3: n is one's own", x.of(0, 10), 0);
        due("3: a shot that is in", x.shoot(1, 0), 12);
        due("3: g, a", x.of(0, 10), 4 + 8);
        FootKeeper y = withGround("in 1 n=0;in 2 g=0;in 4 a=0");
        y.shooter(2, 0);
        for (int i = 0; i < 10; i++) {
            due("3: before the tenth", y.of(0, 10), i == 0 ? 7 : y.of(0, 4) == 0 ? 2 : 0);
            y.shoot(0, 99);
        }
        due("3: n and a modulo 10", y.of(0, 10), 7);
        FootKeeper z = withGround("in 90 p<9;save 0 p<9;in 1 g=0");
        z.shooter(0, 0);
        for (int i = 0; i < 10; i++) {
            due("3: g modulo 10", z.of(0, 10), i == 0 ? 91 : 90);
            due("3: in", z.shoot(0, 0), 10);
        }
        due("3: g after ten", z.of(0, 10), 91);
        operators();
    }

    /** By the SHOTS of all, from 0 to 9, in which the condition holds. */
    private static void operators() {
        heldBy("a<3", 0b0000000111);
        heldBy("a=3", 0b0000001000);
        heldBy("a>3", 0b1111110000);
        heldBy("!a>3", 0b0000001111);
        heldBy("a=1|a=2&a=3", 0b0000000010);
        heldBy("(a=1|a=2)&a=2", 0b0000000100);
        heldBy("!a=1&a<3", 0b0000000101);
        heldBy("!(a=1&a<3)", 0b1111111101);
        heldBy("!!a=1", 0b0000000010);
        heldBy("a<5&a>1&!a=3|a=9", 0b1000010100);
        heldBy("a=09|a=00", 0b1000000001);
        heldBy("a<99&a<98&a<97|a>99", 0b1111111111);
        heldBy("a>2&(a<4|a>6&(a=7|!(a<9)))", 0b1010001000);
    }

    private static void heldBy(String e, int shots) {
        FootKeeper x = withGround("in 7 " + e);
        x.shooter(0, 0);
        for (int i = 0; i < 10; i++) {
            due("3: " + e + " at " + i, x.of(0, 11), (shots >> i & 1) * 7);
            x.shoot(0, 50);
        }
    }

    private static void notes() {
        FootKeeper x = withGround("right s=0;left s=2;stay s=3;left n=0;stay p=0");
        x.shooter(0, 0);
        due("3: NOTE by LAST 3", x.of(0, 6), 1);
        x.last(0, 0);
        due("3: NOTE by LAST 0", x.of(0, 6), 2);
        x.last(0, 2);
        due("3: NOTE by LAST 2", x.of(0, 6), 0);
        x.last(0, 1);
        due("3: the first that holds", x.of(0, 6), 0);
        FootKeeper y = withGround("left p=5;in 50 p<9");
        y.shooter(0, 0);
        due("3: NOTE of none, LAST 3", y.of(0, 6), 1);
        for (int side = 0; side < 3; side++) {
            y.last(0, side);
            due("3: NOTE of none", y.of(0, 6), side);
        }
        FootKeeper z = withGround("right p<9;left p<9");
        z.shooter(0, 0);
        due("3: right", z.of(0, 6), 2);
    }

    /** AIM by LAST 0 to 3 without a ground, as digits. */
    private static void aimsBy(int kind, int v, String by) {
        FootKeeper x = new FootKeeper();
        x.shooter(kind, v);
        for (int last = 0; last < 4; last++) {
            x.last(0, last);
            due("3: AIM of kind " + kind + " by LAST " + last, x.of(0, 5), by.charAt(last) - '0');
        }
    }

    private static void aims() {
        aimsBy(0, 3, "0000");
        aimsBy(0, 7, "1111");
        aimsBy(1, 4, "2101");
        aimsBy(1, 8, "2202");
        aimsBy(2, 5, "0122");
        aimsBy(3, 2, "1000");
        aimsBy(4, 4, "2101");
        aimsBy(5, 5, "0122");
        FootKeeper x = withGround("in 10 s=2;in 5 s=0;in 5 s=1");
        x.shooter(3, 0);
        due("3: WAITING, most SURE", x.of(0, 5), 2);
        x.last(0, 2);
        due("3: WAITING, the first of several", x.of(0, 5), 0);
        x.last(0, 0);
        due("3: WAITING, not the NOTE's", x.of(0, 5), 2);
        changingAims();
        readAims();
    }

    private static void changingAims() {
        FootKeeper x = new FootKeeper();
        x.shooter(4, 2);
        due("3: CHANGING, even, LAST 3", x.shoot(0, 99), 2);
        due("3: CHANGING, odd", x.shoot(0, 99), 1);
        due("3: CHANGING, even, LAST 1", x.of(0, 5), 2);
        x.last(0, 2);
        due("3: CHANGING, even, LAST 2", x.of(0, 5), 0);
        x.last(0, 0);
        due("3: CHANGING, even, LAST 0", x.shoot(0, 99), 2);
        due("3: CHANGING, odd again", x.of(0, 5), 1);
    }

    private static void readAims() {
        FootKeeper x = new FootKeeper();
        x.shooter(5, 0);
        for (int i = 0; i < 3; i++) {
            due("3: READ, not read", x.shoot(0, 99), 0);
        }
        due("3: READ, read", x.shoot(0, 99), 2);
        due("3: READ, read again", x.shoot(0, 99), 0);
        x.last(0, 3);
        due("3: READ, LAST 3", x.of(0, 5), 2);
        x.last(0, 1);
        due("3: READ, LAST 1", x.of(0, 5), 1);
    }

    private static void toldAims() {
        FootKeeper x = withGround("stay n<9;in 20 s=2");
        x.shooter(6, 2);
        int[] told = {2, 1, 0, 2};
        for (int part = 0; part < 4; part++) {
            due("3: row", x.row(0, part, told[part]), 0);
        }
        for (int i = 0; i < 6; i++) {
            due("3: TOLD by its ROW", x.shoot(0, 99), told[i % 4]);
        }
        FootKeeper y = withGround("left n=1;right n=2;stay n=0;in 20 s=2;in 9 p<9");
        y.shooter(6, 2);
        due("3: TOLD, 0 at first", y.shoot(0, 99), 0);
        due("3: TOLD as WAITING", y.shoot(0, 99), 2);
        due("3: TOLD as WAITING, right", y.shoot(0, 99), 0);
    }

    private static void promise4() {
        FootKeeper x = new FootKeeper();
        due("4: nobody", x.last(0, 0), NONE);
        x.shooter(0, 0);
        x.shooter(0, 0);
        due("4: what it was at first", x.last(0, 2), 3);
        due("4: what it was", x.last(0, 3), 2);
        due("4: 3 as well", x.last(0, 1), 3);
        due("4: side too large", x.last(0, 4), NONE);
        due("4: side too small", x.last(0, -1), NONE);
        due("4: number too large", x.last(2, 0), NONE);
        due("4: number too small", x.last(-1, 0), NONE);
        due("4: as set", x.of(0, 2), 1);
        due("4: the other stays", x.of(1, 2), 3);
    }

    private static void promise5() {
        FootKeeper x = new FootKeeper();
        x.shooter(6, 0);
        x.shooter(3, 0);
        x.shooter(6, 0);
        due("5: 0 at first", x.row(0, 3, 2), 0);
        due("5: what it was", x.row(0, 3, 1), 2);
        due("5: another part", x.row(0, 0, 2), 0);
        due("5: another shooter", x.row(2, 3, 2), 0);
        due("5: number", x.row(3, 0, 0), NONE);
        due("5: number below 0", x.row(-1, 0, 0), NONE);
        due("5: part", x.row(0, 4, 0), NONE);
        due("5: part below 0", x.row(0, -1, 0), NONE);
        due("5: part ahead of n", x.row(0, 4, 3), NONE);
        due("5: n", x.row(0, 0, 3), BAD);
        due("5: n below 0", x.row(0, 0, -1), BAD);
        due("5: n ahead of KIND", x.row(1, 0, 3), BAD);
        due("5: KIND", x.row(1, 0, 2), STATE);
        due("5: refused calls change nothing", x.row(0, 0, 0), 2);
        due("5: still as set", x.row(0, 3, 0), 1);
        due("5: AIM", x.of(0, 5), 0);
        x.row(0, 0, 1);
        due("5: AIM after", x.of(0, 5), 1);
    }

    private static void promise6() {
        FootKeeper x = new FootKeeper();
        due("6: below 0", x.feed(-1), BAD);
        due("6: above 127", x.feed(128), BAD);
        due("6: far above", x.feed(256 + 'p'), BAD);
        for (int i = 0; i < 100; i++) {
            due("6: feed", x.feed(i % 2 == 0 ? 0 : 127), i + 1);
        }
        due("6: full", x.feed('p'), FULL);
        due("6: BAD ahead of FULL", x.feed(128), BAD);
        due("6: 100 stay", x.count(5), 100);
        due("6: a ground's", x.ground(), -10);
        due("6: empty then", x.count(5), 0);
        due("6: begun anew", x.feed('p'), 1);
    }

    private static void promise7() {
        whole("in 0 p<0");
        whole("save 99 k=5;left s>2;right n<1;stay g=9;in 7 a=0");
        whole("in 1 p<1;in 1 p<1;in 1 p<1;in 1 p<1;in 1 p<1;in 1 p<1;in 1 p<1;in 1 p<1;in 1 p<1;in 1 p<1");
        whole("left ((((p=1))))");
        whole("left !!!!p=1&!!!!p=1");
        whole("left !(!(p=1&k<2))|(!(!s=0))");
        whole("left (p=1)&((((p=1))))|((p<2))");
        whole("left a<00|a>10&g=7");
        faults();
        manyGrounds();
    }

    private static void faults() {
        fault("", 0);
        fault("i", 1);
        fault("in", 2);
        fault("in ", 3);
        fault("in  p=1", 3);
        fault("in 1", 4);
        fault("in 123 p=1", 5);
        fault("in 12", 5);
        fault("in 12 ", 6);
        fault("in 1  p=1", 5);
        fault("inn", 2);
        fault("iN 1 p=1", 1);
        fault("x", 0);
        fault(" in 1 p=1", 0);
        fault("s", 1);
        fault("sx", 1);
        fault("sa", 2);
        fault("sav", 3);
        fault("sae", 2);
        fault("sta", 3);
        fault("stand", 3);
        fault("save p=1", 5);
        fault("stay 1 p=1", 5);
        fault("lef p=1", 3);
        fault("left", 4);
        fault("left p", 6);
        fault("left p=", 7);
        fault("left p!1", 6);
        fault("left p=x", 7);
        fault("left p=123", 9);
        fault("left q=1", 5);
        fault("left p=1 ", 8);
        fault("left p=1;", 9);
        fault("left p=1;;", 9);
        fault("left p=1 ;left p=1", 8);
        fault("left p=1&", 9);
        fault("left p=1|", 9);
        fault("left p=1&&p=1", 9);
        fault("left p=1)", 8);
        fault("left (p=1", 9);
        fault("left (p=1;left p=1", 9);
        fault("left (p=1))", 10);
        fault("left ()", 6);
        fault("left (((((p=1)))))", 9);
        fault("left !!!!!p=1", 9);
        fault("left !(!(!p=1))", 9);
        fault("left !(!(p=1))&((((!p=1))))", 19);
        fault("left p=1!", 8);
        fault("rite 1", 2);
        fault("right", 5);
        fault("in 1 p<1;in 1 p<1;in 1 p<1;in 1 p<1;in 1 p<1;in 1 p<1;in 1 p<1;in 1 p<1;in 1 p<1;in 1 p<1;", 89);
        fault("in 1 p<1;in 1 p<1;in 1 p<1;in 1 p<1;in 1 p<1;in 1 p<1;in 1 p<1;in 1 p<1;in 1 p<1;in 1 p<1;in 1 p<1",
                89);
    }

    private static void manyGrounds() {
        FootKeeper x = new FootKeeper();
        x.shooter(0, 0);
        for (int i = 0; i < 6; i++) {
            due("7: number", ground(x, "in " + (10 + i) + " p=0"), i);
            due("7: the newest holds", x.of(0, 10), 10 + i);
            due("7: the text is empty", x.count(5), 0);
            if (i < 5) {
                due("7: a fault", ground(x, i % 2 == 0 ? "in 99 p=0;" : "in 99 p=0)"), i % 2 == 0 ? -20 : -19);
            }
            due("7: the one that held holds", x.of(0, 10), 10 + i);
        }
        feed(x, "in 99 p=0");
        due("7: full", x.ground(), FULL);
        due("7: the text stays", x.count(5), 9);
        due("7: full again", x.ground(), FULL);
        due("7: the sixth holds", x.of(0, 10), 15);
        due("7: six", x.count(1), 6);
        FootKeeper z = new FootKeeper();
        for (int i = 0; i < 12; i++) {
            due("7: many faults", ground(z, "in 5 " + "p=1&".repeat(20)), -95);
        }
        due("7: a ground after many faults", ground(z, "in 5 " + "p<9&".repeat(20) + "p<9"), 0);
        z.shooter(0, 0);
        due("7: it holds", z.of(0, 10), 5);
        FootKeeper y = new FootKeeper();
        due("7: a hundred bytes", ground(y, "in 1 p<1;in 1 p<1;in 1 p<1;in 1 p<1;in 1 p<1;in 1 p<1;"
                + "in 1 p<1;in 1 p<1;in 1 p<1;in 11 p=11|p=11&p<1"), 0);
    }

    private static void promise8() {
        FootKeeper x = new FootKeeper();
        x.shooter(0, 0);
        x.shooter(0, 1);
        x.shoot(0, 0);
        x.shoot(1, 0);
        x.shoot(1, 99);
        due("8: SHOTS", x.told(0), 3);
        due("8: GOALS", x.told(1), 2);
        due("8: none", x.told(2), NONE);
        due("8: below", x.told(-1), NONE);
    }

    private static void promise9() {
        FootKeeper x = withGround("in 30 p<9;in 40 s=1;save 50 s<2;save 10 s=2");
        x.shooter(0, 0);
        int[] want = {0, 30, 30, 70, 20, 70, 30, 30, 20};
        for (int side = 0; side < 3; side++) {
            for (int dive = 0; dive < 3; dive++) {
                due("9: chance " + side + " " + dive, x.chance(0, side, dive), want[3 * side + dive]);
            }
        }
        due("9: shooter", x.chance(1, 0, 0), NONE);
        due("9: shooter below", x.chance(-1, 0, 0), NONE);
        due("9: side", x.chance(0, 3, 0), NONE);
        due("9: side below", x.chance(0, -1, 0), NONE);
        due("9: dive", x.chance(0, 0, 3), NONE);
        due("9: dive below", x.chance(0, 0, -1), NONE);
        FootKeeper y = new FootKeeper();
        y.shooter(3, 0);
        due("9: without a ground", y.chance(0, 2, 2), 40);
        due("9: without a ground, apart", y.chance(0, 2, 1), 80);
    }

    private static void promise10() {
        FootKeeper x = new FootKeeper();
        due("10: nobody", x.shoot(0, 0), NONE);
        x.shooter(0, 0);
        x.shooter(0, 2);
        due("10: number ahead of draw", x.shoot(2, 100), NONE);
        due("10: number below 0", x.shoot(-1, 0), NONE);
        due("10: draw", x.shoot(0, 100), BAD);
        due("10: draw below 0", x.shoot(0, -1), BAD);
        due("10: nothing changed", x.told(0), 0);
        due("10: 79 below 80", x.shoot(0, 79), 10);
        due("10: 40 not below 40", x.shoot(0, 40), 0);
        due("10: 39 below 40", x.shoot(0, 39), 10);
        due("10: 80 not below 80", x.shoot(1, 80), 2);
        due("10: LAST", x.of(1, 2), 2);
        due("10: SHOTS of one", x.of(0, 3), 3);
        due("10: GOALS of one", x.of(0, 4), 2);
        due("10: SHOTS of the other", x.of(1, 3), 1);
        due("10: GOALS of the other", x.of(1, 4), 0);
        due("10: SHOTS of all", x.told(0), 4);
        due("10: GOALS of all", x.told(1), 2);
        FootKeeper y = withGround("in 99 p<9;in 99 p<9;save 0 p<9");
        y.shooter(0, 1);
        due("10: sure", y.shoot(0, 99), 11);
        FootKeeper z = withGround("in 0 p<9");
        z.shooter(0, 1);
        due("10: never", z.shoot(0, 0), 1);
    }

    /** More calls than the document promises for; it tells what 999 shots do all the same. */
    private static void ceiling() {
        FootKeeper x = withGround("in 99 p<9;save 0 p<9");
        x.shooter(0, 1);
        for (int i = 0; i < 999; i++) {
            due("10: on the way to 999", x.shoot(0, 0), 11);
        }
        due("10: 999 shots", x.shoot(0, 0), STATE);
        due("10: draw ahead of 999", x.shoot(0, 100), BAD);
        due("10: 999", x.told(0), 999);
        due("10: 999 goals", x.anew(), 999);
        due("10: begun anew", x.shoot(0, 0), 11);
        due("10: 1", x.told(0), 1);
        due("10: own shots 999 at most", x.of(0, 3), 999);
        due("10: own goals 999 at most", x.of(0, 4), 999);
    }

    private static void promise11() {
        FootKeeper x = new FootKeeper();
        due("11: none", x.anew(), 0);
        x.shooter(0, 0);
        x.shoot(0, 0);
        x.shoot(0, 0);
        x.shoot(0, 99);
        due("11: goals", x.anew(), 2);
        due("11: SHOTS of all", x.told(0), 0);
        due("11: GOALS of all", x.told(1), 0);
        due("11: again", x.anew(), 0);
        due("11: SHOTS of one stay", x.of(0, 3), 3);
        due("11: GOALS of one stay", x.of(0, 4), 2);
        due("11: LAST stays", x.of(0, 2), 0);
    }

    private static void promise12() {
        FootKeeper x = new FootKeeper();
        x.shooter(0, 1);
        due("12: the first of several", x.best(0, 0), 0);
        due("12: CHANCE", x.best(0, 1), 80);
        x.last(0, 0);
        due("12: not the NOTE's", x.best(0, 0), 1);
        due("12: what", x.best(0, 2), NONE);
        due("12: what below", x.best(0, -1), NONE);
        due("12: number", x.best(1, 0), NONE);
        due("12: number below", x.best(-1, 1), NONE);
        FootKeeper y = withGround("in 90 s=2;in 50 p<9;save 20 p<9");
        y.shooter(0, 0);
        y.last(0, 2);
        due("12: the NOTE's, though", y.best(0, 0), 2);
        due("12: by the NOTE", y.best(0, 1), 80);
    }

    private static void promise13() {
        FootKeeper x = new FootKeeper();
        x.shooter(0, 1);
        // 80 for each of ten, less 40 for as many as go where the keeper does: four at most there
        due("13: the least l, then m", x.mix(0, 0), 244);
        due("13: the sum", x.mix(0, 1), 640);
        due("13: what", x.mix(0, 2), NONE);
        due("13: what below", x.mix(0, -1), NONE);
        due("13: number", x.mix(1, 0), NONE);
        due("13: number below", x.mix(-1, 0), NONE);
        FootKeeper y = withGround("in 0 p<9");
        y.shooter(0, 1);
        due("13: all alike", y.mix(0, 0), 10);
        due("13: nothing", y.mix(0, 1), 0);
        FootKeeper z = withGround("in 50 s=0;save 0 p<9");
        z.shooter(0, 1);
        due("13: left alone", z.mix(0, 0), 1000);
        due("13: its sum", z.mix(0, 1), 500);
        FootKeeper w = withGround("in 50 s=1;save 0 p<9");
        w.shooter(0, 1);
        due("13: middle alone", w.mix(0, 0), 100);
    }

    private static void promise14() {
        FootKeeper x = new FootKeeper();
        due("14: nobody", x.line(0), NONE);
        due("14: none then", x.line(-1), 0);
        x.shooter(0, 0);
        x.shooter(0, 1);
        due("14: one", x.line(1), 1);
        due("14: below", x.line(-2), NONE);
        due("14: number", x.line(2), NONE);
        due("14: again", x.line(1), 2);
        due("14: other", x.line(0), 3);
        due("14: four", x.line(1), 4);
        due("14: full", x.line(0), FULL);
        due("14: NONE ahead of FULL", x.line(2), NONE);
        due("14: four stay", x.count(2), 4);
        due("14: none then", x.line(-1), 0);
        due("14: none", x.count(2), 0);
        due("14: one again", x.line(0), 1);
    }

    private static void likelyIs(FootKeeper x, int g, long above, long below) {
        due("15: likely(" + g + ", 0)", x.likely(g, 0), above);
        due("15: likely(" + g + ", 1)", x.likely(g, 1), below);
    }

    private static void promise15() {
        FootKeeper x = new FootKeeper();
        likelyIs(x, 0, 1, 1);
        likelyIs(x, 4, 0, 1);
        x.shooter(0, 0);
        x.line(0);
        likelyIs(x, 0, 1, 5);
        likelyIs(x, 1, 4, 5);
        likelyIs(x, 2, 0, 1);
        x.line(0);
        // the second shot goes where the keeper does: 80 of a hundred, then 40
        likelyIs(x, 0, 3, 25);
        likelyIs(x, 1, 14, 25);
        likelyIs(x, 2, 8, 25);
        due("15: g below", x.likely(-1, 0), NO);
        due("15: g above", x.likely(5, 0), NO);
        due("15: part", x.likely(0, 2), NO);
        due("15: part below", x.likely(0, -1), NO);
        due("15: nothing changed", x.told(0) + x.of(0, 3), 0);
        due("15: LAST stays", x.of(0, 2), 3);
        FootKeeper y = withGround("in 50 g=0;in 99 g=1;in 20 g>1;save 0 p<9");
        y.shooter(1, 0);
        y.shooter(4, 1);
        y.line(0);
        y.line(1);
        y.line(0);
        likelyIs(y, 0, 1, 8);
        likelyIs(y, 1, 2551, 20000);
        likelyIs(y, 2, 12969, 20000);
        likelyIs(y, 3, 99, 1000);
    }

    private static void promise16() {
        FootKeeper x = withGround("in 90 a=0&p=1;in 50 p=0|a>0;save 0 p<9");
        x.shooter(0, 0);
        x.shooter(0, 0);
        due("16: empty", x.order(0), -5);
        due("16: k", x.order(4), NONE);
        due("16: k below", x.order(-1), NONE);
        x.line(0);
        due("16: one", x.order(0), 0);
        due("16: behind", x.order(1), -5);
        x.line(1);
        due("16: the second first", x.order(0), 1);
        due("16: the first then", x.order(1), 0);
        due("16: behind", x.order(2), -5);
        x.line(-1);
        x.line(1);
        x.line(1);
        x.line(1);
        x.line(1);
        for (int k = 0; k < 4; k++) {
            due("16: all alike", x.order(k), k);
        }
        due("16: k", x.order(4), NONE);
        FootKeeper y = withGround("in 90 a=0&p=1|a=1&p=2|a=2&p=0|a=3&p=3;in 9 p<9;save 0 p<9");
        int[] line = {3, 0, 1, 2};
        int[] want = {2, 3, 1, 0};
        for (int i = 0; i < 4; i++) {
            y.shooter(0, i);
        }
        for (int i = 0; i < 4; i++) {
            y.line(line[i]);
        }
        for (int k = 0; k < 4; k++) {
            due("16: each at its place", y.order(k), want[k]);
        }
        FootKeeper w = withGround("in 90 a<2&p<1;in 30 p>0;in 40 a>2&p>0;save 0 p<9");
        for (int i = 0; i < 4; i++) {
            w.shooter(0, 0);
            w.line(i);
        }
        long above = w.likely(3, 0);
        // three of four must be in: the one with 90 goes ahead, the others have 30, 30 and then 70
        for (int k = 0; k < 4; k++) {
            due("16: three of four", w.order(k), k);
        }
        due("16: likely goes by THE ROW as told", w.likely(3, 0), above);
        FootKeeper z = withGround("in 60 a=1&p=1;in 50 p=0;save 0 p<9");
        z.shooter(0, 0);
        z.shooter(0, 0);
        z.line(0);
        z.line(0);
        z.line(1);
        // 0, 2, 1 and 1, 2, 0 are alike: the one who is of use in the second place alone goes there
        due("16: of several the first", z.order(0), 0);
        due("16: the other in the middle", z.order(1), 2);
        due("16: last", z.order(2), 1);
    }

    private static void winIs(FootKeeper x, int q, int what, long above, long below) {
        due("17: win(" + q + ", " + what + ", 0)", x.win(q, what, 0), above);
        due("17: win(" + q + ", " + what + ", 1)", x.win(q, what, 1), below);
    }

    private static void promise17() {
        FootKeeper x = new FootKeeper();
        winIs(x, 50, 0, 0, 1);
        winIs(x, 50, 1, 1, 1);
        x.shooter(0, 0);
        x.line(0);
        winIs(x, 50, 0, 2, 5);
        winIs(x, 50, 1, 1, 2);
        winIs(x, 100, 0, 0, 1);
        winIs(x, 100, 1, 4, 5);
        winIs(x, 0, 0, 4, 5);
        winIs(x, 0, 1, 1, 5);
        x.line(0);
        // 3, 14, 8 of 25 against 1, 2, 1 of 4
        winIs(x, 50, 0, 19, 50);
        winIs(x, 50, 1, 39, 100);
        int[] bad = {-1, 101};
        for (int q : bad) {
            due("17: q", x.win(q, 0, 0), NO);
        }
        for (int what : new int[] {-1, 2}) {
            due("17: what", x.win(50, what, 0), NO);
            due("17: part", x.win(50, 0, what), NO);
        }
        FootKeeper y = withGround("in 33 p<9;save 0 p<9");
        y.shooter(0, 0);
        for (int i = 0; i < 4; i++) {
            y.line(0);
        }
        winIs(y, 77, 1, 115259265856327L, 1000000000000000L);
        winIs(y, 77, 0, 85233912438873L, 2000000000000000L);
    }

    private static void promise18() {
        FootKeeper x = new FootKeeper();
        due("18: nobody", x.worth(0), -1001);
        due("18: below", x.worth(-1), -1001);
        x.shooter(0, 0);
        x.shooter(0, 1);
        due("18: LAST 3", x.worth(0), 0);
        x.last(0, 0);
        due("18: the note finds it", x.worth(0), 40);
        due("18: both stay", x.worth(1), 0);
        x.last(1, 0);
        due("18: the note leads away", x.worth(1), -40);
        due("18: number", x.worth(2), -1001);
    }

    private static void promise19() {
        FootKeeper x = new FootKeeper();
        due("19: nobody", x.stop(0), -1001);
        due("19: below", x.stop(-1), -1001);
        x.shooter(0, 0);
        due("19: alike", x.stop(0), 0);
        x.last(0, 0);
        due("19: away from the note", x.stop(0), 40);
        due("19: number", x.stop(1), -1001);
        FootKeeper y = withGround("in 90 s=0;in 10 s>0;save 5 p<9");
        y.shooter(0, 0);
        y.last(0, 0);
        due("19: below 0", y.stop(0), -75);
    }

    private static void promise20() {
        FootKeeper x = new FootKeeper();
        due("20: nobody", x.forget(0, 0), NONE);
        x.shooter(0, 0);
        x.shooter(0, 1);
        x.shooter(2, 0);
        x.last(2, 1);
        due("20: the least of several", x.forget(0, 0), 1);
        due("20: CHANCE", x.forget(0, 1), 80);
        due("20: 0", x.forget(1, 0), 0);
        due("20: best none", x.forget(2, 0), 3);
        due("20: its CHANCE", x.forget(2, 1), 80);
        due("20: LAST stays", x.of(2, 2), 1);
        due("20: what", x.forget(0, 2), NONE);
        due("20: what below", x.forget(0, -1), NONE);
        due("20: number", x.forget(3, 0), NONE);
        due("20: number below", x.forget(-1, 0), NONE);
        FootKeeper y = withGround("left s=2;right s<2;in 60 s=1;in 70 s=0;save 60 s=0");
        y.shooter(2, 0);
        // LAST 0: 70 by 2; 1: 60 by 2; 2: 0; 3: the keeper stays, aims 0: 70
        due("20: with a ground", y.forget(0, 0), 0);
        due("20: with a ground, CHANCE", y.forget(0, 1), 70);
        FootKeeper z = withGround("in 0 p<9");
        z.shooter(2, 0);
        due("20: all 0", z.forget(0, 0), 0);
        due("20: all 0, CHANCE", z.forget(0, 1), 0);
    }

    private static void promise21() {
        FootKeeper x = new FootKeeper();
        due("21: nobody", x.caught(0, 0), NONE);
        due("21: NONE ahead of BAD", x.caught(0, 21), NONE);
        x.shooter(2, 0);
        x.shooter(1, 0);
        due("21: n", x.caught(0, 21), BAD);
        due("21: n below", x.caught(0, -1), BAD);
        due("21: none", x.caught(0, 0), 0);
        due("21: the first is free", x.caught(0, 1), 0);
        due("21: then it stays", x.caught(0, 5), 4);
        due("21: twenty", x.caught(0, 20), 19);
        due("21: turned", x.caught(1, 20), 0);
        due("21: number", x.caught(2, 0), NONE);
        due("21: number below", x.caught(-1, 0), NONE);
        due("21: nothing changed", x.told(0) + x.of(0, 3), 0);
        due("21: LAST stays", x.of(0, 2), 3);
        FootKeeper y = withGround("left a<3;right a=3|a=7;in 50 g=0");
        y.shooter(0, 0);
        y.shooter(2, 2);
        y.shoot(1, 99);
        // SHOTS of all go on from 1: left, left, right, then its LAST
        due("21: SHOTS of all count", y.caught(0, 4), 3);
        due("21: modulo 10", y.caught(0, 12), 10);
    }

    private static void promise22() {
        FootKeeper x = new FootKeeper();
        due("22: none then", x.see(-1), 0);
        due("22: side", x.see(3), NONE);
        due("22: below", x.see(-2), NONE);
        for (int i = 0; i < 6; i++) {
            due("22: how many", x.see(i % 3), i + 1);
        }
        due("22: full", x.see(0), FULL);
        due("22: NONE ahead of FULL", x.see(3), NONE);
        due("22: six stay", x.count(3), 6);
        due("22: none then", x.see(-1), 0);
        due("22: one again", x.see(2), 1);
    }

    private static void promise23() {
        FootKeeper x = new FootKeeper();
        due("23: nobody", x.who(), 0);
        x.shooter(2, 0);
        x.shooter(1, 0);
        x.shooter(0, 1);
        x.shooter(4, 0);
        due("23: nothing seen", x.who(), 15);
        x.see(0);
        due("23: one", x.who(), 11);
        x.see(0);
        due("23: two", x.who(), 1);
        x.see(-1);
        x.see(0);
        x.see(2);
        due("23: turned", x.who(), 2);
        x.see(0);
        x.see(2);
        x.see(0);
        x.see(2);
        due("23: six", x.who(), 2);
        x.see(-1);
        x.see(0);
        x.see(1);
        x.see(0);
        due("23: changing", x.who(), 8);
        due("23: nothing changed", x.told(0) + x.of(1, 3), 0);
        due("23: LAST stays", x.of(1, 2), 3);
        FootKeeper y = withGround("left g=0;right g>0;in 50 s=2;in 40 s<2");
        y.shooter(3, 0);
        y.see(2);
        y.see(2);
        due("23: none is in", y.who(), 1);
    }

    private static void promise24() {
        FootKeeper x = new FootKeeper();
        due("24: nobody", x.odds(0, 0), NO);
        x.shooter(0, 0);
        due("24: above", x.odds(0, 0), 2);
        due("24: below", x.odds(0, 1), 3);
        due("24: part", x.odds(0, 2), NO);
        due("24: part below", x.odds(0, -1), NO);
        due("24: number", x.odds(1, 0), NO);
        due("24: number below", x.odds(-1, 0), NO);
        FootKeeper y = withGround("in 99 p<9;in 1 s<2;save 0 p<9");
        y.shooter(0, 0);
        due("24: 299", y.odds(0, 0), 299);
        due("24: 300", y.odds(0, 1), 300);
        FootKeeper z = withGround("in 0 p<9");
        z.shooter(0, 0);
        due("24: none", z.odds(0, 0), 0);
        due("24: of one", z.odds(0, 1), 1);
    }

    private static void promise25() {
        FootKeeper x = new FootKeeper();
        due("25: nobody", x.mean(0), NO);
        due("25: nobody, below", x.mean(1), NO);
        x.shooter(0, 0);
        due("25: one", x.mean(0), 80);
        due("25: by one", x.mean(1), 1);
        x.shooter(0, 1);
        due("25: two", x.mean(0), 60);
        due("25: by two", x.mean(1), 1);
        x.shooter(0, 2);
        due("25: three", x.mean(0), 200);
        due("25: by three", x.mean(1), 3);
        due("25: part", x.mean(2), NO);
        due("25: part below", x.mean(-1), NO);
    }

    private static void promise26() {
        FootKeeper x = new FootKeeper();
        due("26: nobody", x.book(0, 0), NONE);
        due("26: empty then, with any draw", x.book(-1, 100), 0);
        x.shooter(0, 0);
        due("26: below", x.book(-2, 0), NONE);
        due("26: number", x.book(1, 0), NONE);
        due("26: number ahead of draw", x.book(1, 100), NONE);
        due("26: draw", x.book(0, 100), BAD);
        due("26: draw below", x.book(0, -1), BAD);
        for (int i = 0; i < 10; i++) {
            due("26: how many", x.book(0, 99 * (i % 2)), i + 1);
        }
        due("26: full", x.book(0, 0), FULL);
        due("26: draw ahead of full", x.book(0, 100), BAD);
        due("26: number ahead of full", x.book(1, 0), NONE);
        due("26: ten stay", x.count(4), 10);
        due("26: empty then", x.book(-1, -7), 0);
        due("26: none", x.count(4), 0);
        due("26: none looked at", x.looked(), -5);
        due("26: one again", x.book(0, 0), 1);
    }

    private static void promise27() {
        FootKeeper x = new FootKeeper();
        due("27: none", x.looked(), -5);
        x.shooter(0, 0);
        x.shooter(0, 1);
        x.book(0, 79);
        due("27: 79 is in", x.looked(), -5);
        x.book(0, 39);
        due("27: 39 by the note is in", x.looked(), -5);
        x.book(0, 40);
        due("27: 40 by the note is not", x.looked(), 2);
        x.book(1, 99);
        due("27: the first stays", x.looked(), 2);
        x.book(-1, 0);
        x.book(1, 40);
        due("27: one that stays with a keeper who does", x.looked(), 0);
        due("27: nothing changed", x.told(0) + x.of(0, 3), 0);
        FootKeeper y = withGround("in 50 g=0;in 30 g=1;in 10 g=2;save 0 p<9");
        y.shooter(0, 0);
        y.shooter(0, 1);
        y.book(0, 49);
        y.book(1, 29);
        y.book(0, 10);
        due("27: goals count", y.looked(), 2);
        for (int i = 0; i < 7; i++) {
            y.book(1, 0);
        }
        due("27: a full book", y.looked(), 2);
    }

    private static void promise28() {
        FootKeeper x = new FootKeeper();
        due("28: tape", x.judge(6, 0), NONE);
        due("28: tape below", x.judge(-1, 0), NONE);
        due("28: nobody, nothing", x.judge(0, 0), -5);
        due("28: nobody, place below", x.judge(0, -1), -5);
        bytes(x, 2, 3);
        due("28: nobody, a row", x.judge(2, 0), -5);
        x.shooter(0, 0);
        due("28: one", x.judge(2, 0), -5);
        due("28: one, behind the end", x.judge(2, 1), 100);
        x = new FootKeeper();
        x.tape(1, 1, 5);
        due("28: another sort ahead of nobody", x.judge(1, 0), CAST);
        x.shooter(0, 0);
        x.shooter(0, 0);
        x.shooter(0, 0);
        x.last(0, 2);
        x.last(1, 0);
        due("28: nothing", x.judge(0, 0), 100);
        for (int sort = 1; sort < 5; sort++) {
            x.tape(1, sort, 5);
            due("28: another sort", x.judge(1, 0), CAST);
            due("28: another sort, place below", x.judge(1, -1), CAST);
        }
        bytes(x, 0, 9, 2, 0, 3, 2, 0);
        due("28: all", x.judge(0, 1), -5);
        due("28: the first is otherwise", x.judge(0, 0), 0);
        due("28: the second is otherwise", x.judge(0, 3), 0);
        due("28: ends ahead", x.judge(0, 4), 102);
        due("28: the end", x.judge(0, 6), 100);
        due("28: behind the end", x.judge(0, 7), 100);
        due("28: far behind", x.judge(0, Integer.MAX_VALUE), 100);
        due("28: below", x.judge(0, -1), 100);
        due("28: far below", x.judge(0, Integer.MIN_VALUE), 100);
        bytes(x, 0, 2, 0, 2);
        due("28: the third is otherwise", x.judge(0, 0), 2);
        bytes(x, 0, 2, 1, 3);
        due("28: the second is otherwise", x.judge(0, 0), 1);
        bytes(x, 0, 2, 0);
        due("28: two", x.judge(0, 0), 102);
        bytes(x, 0, 2, 1);
        due("28: otherwise ahead of the end", x.judge(0, 0), 1);
        x.tape(0, 0, 0);
        due("28: an empty row", x.judge(0, 0), 100);
    }

    private static void promise29() {
        FootKeeper x = new FootKeeper();
        due("29: nobody", x.image(), 0);
        x.shooter(0, 0);
        x.shooter(0, 1);
        due("29: two", x.image(), 2);
        x.shooter(0, 1);
        due("29: the newer image holds", x.undo(), 2);
        due("29: three", x.shooter(0, 0), 2);
        due("29: three then", x.image(), 3);
        due("29: three back", x.undo(), 3);
    }

    private static void promise30() {
        FootKeeper x = new FootKeeper();
        due("30: none", x.undo(), STATE);
        x.shooter(6, 4);
        x.shooter(0, 1);
        due("30: first ground", ground(x, "in 50 p<9;stay p<9"), 0);
        x.row(0, 0, 2);
        x.shoot(0, 0);
        x.line(1);
        x.see(2);
        x.book(1, 50);
        x.tape(2, 2, 3);
        x.act(0, 2, 1);
        due("30: image", x.image(), 2);
        due("30: second ground", ground(x, "in 60 p<9"), 1);
        x.shooter(5, 9);
        x.row(0, 0, 1);
        x.row(0, 1, 1);
        x.shoot(2, 0);
        x.shoot(0, 0);
        x.last(1, 0);
        x.line(-1);
        x.line(2);
        x.line(2);
        x.see(0);
        x.book(-1, 0);
        x.book(2, 7);
        x.book(2, 7);
        x.item(2, 1, 77);
        x.feed('x');
        x.act(1, 0, 1);
        due("30: back", x.undo(), 2);
        due("30: the third is gone", x.of(2, 0), NONE);
        due("30: SHOTS", x.told(0), 1);
        due("30: GOALS", x.told(1), 1);
        due("30: LAST of the first", x.of(0, 2), 2);
        due("30: LAST of the second", x.of(1, 2), 3);
        due("30: shots of the first", x.of(0, 3), 1);
        due("30: goals of the first", x.of(0, 4), 1);
        due("30: the first ground holds", x.of(0, 10), 50);
        due("30: THE ROW", x.count(2), 1);
        due("30: SEEN", x.count(3), 1);
        due("30: BOOK", x.count(4), 1);
        due("30: looked", x.looked(), 0);
        due("30: the grounds stay", x.count(1), 2);
        due("30: the text stays", x.count(5), 1);
        due("30: the trace stays", x.count(6), 1);
        due("30: the tapes stay", x.read(2, 1), 77);
        due("30: the ROW of the first", x.row(0, 0, 0), 2);
        due("30: the ROW of the first, then", x.row(0, 1, 0), 0);
        due("30: a new third", x.shooter(6, 2), 2);
        due("30: its kind", x.of(2, 0), 6);
        due("30: its LAST", x.of(2, 2), 3);
        due("30: its SHOTS", x.of(2, 3), 0);
        due("30: its GOALS", x.of(2, 4), 0);
        due("30: its ROW", x.row(2, 0, 1), 0);
        due("30: again", x.undo(), 2);
        due("30: once more", x.row(0, 0, 0), 2);
        FootKeeper y = new FootKeeper();
        y.shooter(0, 0);
        y.image();
        due("30: a ground", ground(y, "in 60 p<9"), 0);
        y.undo();
        due("30: no ground holds", y.of(0, 10), 80);
        due("30: it is still counted", y.count(1), 1);
        due("30: the next", ground(y, "in 70 p<9"), 1);
        due("30: it holds", y.of(0, 10), 70);
    }

    private static void actIs(FootKeeper x, int shooter, int act, int v, int want, int... bodies) {
        String name = "31: act(" + shooter + ", " + act + ", " + v + ")";
        due(name, x.act(shooter, act, v), want);
        due(name + " bodies", x.count(6), bodies.length);
        for (int i = 0; i < bodies.length; i++) {
            due(name + " trace " + i, x.trace(i), bodies[i]);
        }
        due(name + " trace behind", x.trace(bodies.length), NONE);
    }

    private static void promise31() {
        FootKeeper x = new FootKeeper();
        for (int kind = 0; kind < 6; kind++) {
            x.shooter(kind, kind + 2);
        }
        actIs(x, 0, 0, 5, 5, 10);
        actIs(x, 0, 1, 5, 3, 11, 10);
        actIs(x, 0, 2, 5, 6, 12, 11, 10);
        actIs(x, 1, 0, 5, 6, 10);
        actIs(x, 1, 1, 5, 5, 20, 11, 10);
        actIs(x, 1, 2, 5, 10, 12, 20, 11, 10);
        actIs(x, 2, 0, 5, 17, 30, 10);
        actIs(x, 2, 1, 5, 13, 11, 30, 10);
        actIs(x, 2, 2, 5, 26, 12, 11, 30, 10);
        actIs(x, 3, 0, 5, 8, 10);
        actIs(x, 3, 2, 5, 5, 40, 12, 11, 10, 11, 10);
        actIs(x, 4, 0, 5, -9, 50, 10);
        actIs(x, 4, 1, 5, -16 ^ 6, 51, 20, 11, 50, 10);
        actIs(x, 4, 2, 5, (-16 ^ 6) * 2, 12, 51, 20, 11, 50, 10);
        actIs(x, 5, 1, 5, 13, 11, 30, 10);
        actIs(x, 5, 2, 7, 8, 60, 12, 11, 30, 10);
        FootKeeper y = new FootKeeper();
        y.shooter(0, 0);
        y.shooter(6, 5);
        actIs(y, 1, 0, 5, 3, 71, 10);
        actIs(y, 1, 1, 5, 1, 70, 11, 71, 10, 10);
        // shows(1): (2 ^ 5) - 5 + 3 = 5
        actIs(y, 1, 2, 5, 2 + 5, 40, 12, 70, 11, 71, 10, 10, 70, 11, 71, 10, 10);
        actIs(x, 2, 0, Integer.MAX_VALUE, Integer.MAX_VALUE * 3 + 2, 30, 10);
        actIs(x, 5, 0, Integer.MIN_VALUE, Integer.MIN_VALUE * 3 + 5, 30, 10);
        actIs(x, 0, 1, Integer.MIN_VALUE, Integer.MAX_VALUE - 1, 11, 10);
        for (int act = -1; act < 4; act += 4) {
            x.act(0, 0, 1);
            actIs(x, 0, act, 5, 0);
        }
        actIs(x, 0, 0, 1, 1, 10);
        actIs(x, 0, 3, 5, 0);
        actIs(x, 0, 0, 1, 1, 10);
        actIs(x, 6, 0, 5, 0);
        actIs(x, 0, 0, 1, 1, 10);
        actIs(x, -1, 0, 5, 0);
    }

    private static void promise32() {
        FootKeeper x = new FootKeeper();
        due("32: none", x.trace(0), NONE);
        x.shooter(5, 0);
        x.act(0, 2, 1);
        due("32: first", x.trace(0), 60);
        due("32: last", x.trace(4), 10);
        due("32: behind", x.trace(5), NONE);
        due("32: below", x.trace(-1), NONE);
        due("32: far", x.trace(Integer.MAX_VALUE), NONE);
        x.act(0, 0, 1);
        due("32: the latest act's", x.trace(0), 30);
        due("32: shorter", x.trace(2), NONE);
    }

    private static void promise33() {
        FootKeeper x = new FootKeeper();
        due("33: k ahead of nobody", x.taken(0, 7), BAD);
        due("33: k below", x.taken(0, -1), BAD);
        due("33: nobody", x.taken(0, 0), NOTHING);
        int[] above = {-1, 0, 0, 0, 1, 2, 3};
        for (int first = 0; first < 7; first += 6) {
            FootKeeper y = new FootKeeper();
            for (int kind = first; kind < Math.min(7, first + 6); kind++) {
                int number = y.shooter(kind, 0);
                for (int k = 0; k < 7; k++) {
                    boolean under = k == kind || k == 0 || k == above[kind];
                    due("33: " + kind + " for " + k, y.taken(number, k), under ? kind : CAST);
                }
                due("33: k", y.taken(number, 7), BAD);
                due("33: k below", y.taken(number, -1), BAD);
            }
            due("33: number", y.taken(6, 0), NOTHING);
            due("33: number below", y.taken(-1, 0), NOTHING);
        }
    }

    private static void promise34() {
        FootKeeper x = new FootKeeper();
        x.shooter(0, 0);
        x.shooter(0, 0);
        due("34: ground", ground(x, "left p=0"), 0);
        for (int i = 0; i < 3; i++) {
            x.line(0);
        }
        for (int i = 0; i < 4; i++) {
            x.see(0);
        }
        for (int i = 0; i < 5; i++) {
            x.book(0, 0);
        }
        feed(x, "in 5 p");
        x.act(0, 2, 1);
        int[] want = {2, 1, 3, 4, 5, 6, 3};
        for (int what = 0; what < 7; what++) {
            due("34: count(" + what + ")", x.count(what), want[what]);
        }
        due("34: above", x.count(7), BAD);
        due("34: below", x.count(-1), BAD);
    }

    private static void promise35() {
        FootKeeper x = new FootKeeper();
        due("35: tape", x.tape(6, 0, 1), NONE);
        due("35: tape below", x.tape(-1, 0, 1), NONE);
        due("35: tape ahead of sort", x.tape(6, 5, 1), NONE);
        due("35: sort", x.tape(0, 5, 1), BAD);
        due("35: sort below", x.tape(0, -2, 1), BAD);
        due("35: sort ahead of size", x.tape(0, 5, -1), BAD);
        due("35: n", x.tape(0, 0, 61), BAD);
        due("35: size", x.tape(0, 0, -1), SIZE);
        due("35: size far below", x.tape(0, 0, Integer.MIN_VALUE), SIZE);
        due("35: still nothing", x.item(0, 0, 1), NOTHING);
        due("35: 60", x.tape(0, 3, 60), 1);
        due("35: the last item", x.item(0, 59, 5), 1);
        due("35: refused", x.tape(0, 3, 61), BAD);
        due("35: refused, size", x.tape(0, 3, -1), SIZE);
        due("35: stays", x.read(0, 59), 5);
        due("35: anew", x.tape(0, 3, 60), 1);
        due("35: all 0", x.read(0, 59), 0);
        due("35: none", x.tape(0, 3, 0), 1);
        due("35: no place", x.item(0, 0, 1), PLACE);
        due("35: nothing, n does not matter", x.tape(0, -1, 61), 1);
        due("35: nothing", x.item(0, 0, 1), NOTHING);
        due("35: nothing, n below", x.tape(0, -1, -1), 1);
        due("35: all six", x.tape(5, 4, 1), 1);
    }

    private static void promise36() {
        FootKeeper x = new FootKeeper();
        due("36: tape", x.item(6, 0, 1), NONE);
        due("36: tape below", x.item(-1, 0, 1), NONE);
        due("36: nothing", x.item(0, 99, 1), NOTHING);
        for (int sort = 0; sort < 5; sort++) {
            x.tape(sort, sort, 3);
            due("36: place", x.item(sort, 3, 1), PLACE);
            due("36: place below", x.item(sort, -1, 1), PLACE);
            due("36: place far", x.item(sort, Integer.MAX_VALUE, 1), PLACE);
            due("36: set", x.item(sort, 0, 0x123456789ABCDEF0L), 1);
            due("36: set", x.item(sort, 1, -129), 1);
            due("36: set", x.item(sort, 2, 1L << 63), 1);
        }
        holds(x, "36: bytes", 0, -16, 127, 0);
        holds(x, "36: shorts", 1, -8464, -129, 0);
        holds(x, "36: ints", 2, 0x9ABCDEF0, -129, 0);
        holds(x, "36: longs", 3, 0x123456789ABCDEF0L, -129, Long.MIN_VALUE);
        holds(x, "36: booleans", 4, 1, 1, 1);
        due("36: boolean back", x.item(4, 1, 0), 1);
        due("36: boolean 0", x.read(4, 1), 0);
    }

    private static void promise37() {
        FootKeeper x = new FootKeeper();
        due("37: tape", x.read(6, 0), NO);
        due("37: tape below", x.read(-1, 0), NO);
        due("37: nothing", x.read(0, 0), NO);
        x.tape(0, 2, 4);
        x.item(0, 3, -7);
        due("37: item", x.read(0, 3), -7);
        due("37: 0", x.read(0, 0), 0);
        due("37: place", x.read(0, 4), NO);
        due("37: place below", x.read(0, -1), NO);
        due("37: place far", x.read(0, Integer.MIN_VALUE), NO);
        x.tape(0, -1, 0);
        due("37: nothing again", x.read(0, 3), NO);
    }

    private static void promise38() {
        FootKeeper x = new FootKeeper();
        due("38: tape", x.shift(6, 0, 0, 0, 0), NONE);
        due("38: other", x.shift(0, 0, 6, 0, 0), NONE);
        due("38: below", x.shift(-1, 0, 0, 0, 0), NONE);
        due("38: other below", x.shift(0, 0, -1, 0, 0), NONE);
        due("38: nothing", x.shift(0, 0, 1, 0, 0), NOTHING);
        bytes(x, 0, 1, 2, 3, 4, 5);
        due("38: nothing there", x.shift(0, 0, 1, 0, 0), NOTHING);
        due("38: nothing here", x.shift(1, 0, 0, 0, 0), NOTHING);
        x.tape(2, 1, 5);
        due("38: unlike sorts, ahead of places", x.shift(0, -1, 2, 0, 1), CAST);
        bytes(x, 1, 0, 0, 0);
        int[][] bad = {{-1, 0, 1}, {0, -1, 1}, {0, 0, -1}, {5, 0, 1}, {4, 0, 2}, {0, 3, 1}, {0, 0, 4}, {6, 0, 0}, {0, 4, 0},
            {Integer.MAX_VALUE, 0, 1}, {0, Integer.MAX_VALUE, 1}, {1, 1, Integer.MAX_VALUE}, {Integer.MAX_VALUE, 0, 0}};
        for (int[] b : bad) {
            due("38: places", x.shift(0, b[0], 1, b[1], b[2]), PLACE);
        }
        due("38: none at the ends", x.shift(0, 5, 1, 3, 0), 0);
        due("38: two", x.shift(0, 3, 1, 1, 2), 2);
        holds(x, "38: there", 1, 0, 4, 5);
        due("38: upward", x.shift(0, 0, 0, 1, 4), 4);
        holds(x, "38: upward", 0, 1, 1, 2, 3, 4);
        due("38: downward", x.shift(0, 2, 0, 1, 3), 3);
        holds(x, "38: downward", 0, 1, 2, 3, 4, 4);
        due("38: all", x.shift(1, 0, 0, 0, 3), 3);
        holds(x, "38: all", 0, 0, 4, 5, 4, 4);
    }

    public static void main(String[] args) {
        promise1();
        promise2();
        promise3();
        promise4();
        promise5();
        promise6();
        promise7();
        promise8();
        promise9();
        promise10();
        ceiling();
        promise11();
        promise12();
        promise13();
        promise14();
        promise15();
        promise16();
        promise17();
        promise18();
        promise19();
        promise20();
        promise21();
        promise22();
        promise23();
        promise24();
        promise25();
        promise26();
        promise27();
        promise28();
        promise29();
        promise30();
        promise31();
        promise32();
        promise33();
        promise34();
        promise35();
        promise36();
        promise37();
        promise38();
        System.out.println(asked + " answers asked, " + wrong + " not as due");
        if (wrong != 0) {
            System.exit(1);
        }
    }
}
