import java.io.IOException;

/** For each sentence of 'Terms' that names a boundary case a test of its own. */
public final class TermTests {
    private static final int NONE = -1, BAD = -2, FULL = -4;
    private static final int NOTHING = -11, CAST = -12, PLACE = -13, SIZE = -14;
    private static final long NO = Long.MIN_VALUE;
    private static final int MAX = Integer.MAX_VALUE, MIN = Integer.MIN_VALUE;
    private static final String SURELY = "in 99 p<9;in 1 p<9;save 0 p<9", NEVER = "in 0 p<9";

    private final Sheet sheet = new Sheet();

    private TermTests() throws IOException {
    }

    private void term(String words, Runnable test) {
        sheet.test("Terms", words, test);
    }

    private void shooters() {
        term("SIDES: 0 left, 1 middle, 2 right.", () -> {
            FootKeeper x = Sheet.with("", 6, 0);
            for (int side = 0; side < 3; side++) {
                sheet.due("chance by " + side, x.chance(0, side, side), 40);
                sheet.due("see " + side, x.see(side), side + 1);
                sheet.due("last " + side, x.last(0, side), side == 0 ? 3 : side - 1);
                sheet.due("row " + side, x.row(0, side, side), 0);
            }
            for (int side : new int[] {-1, 3, MAX, MIN}) {
                sheet.due("chance by " + side, x.chance(0, side, 0), NONE);
                sheet.due("chance by dive " + side, x.chance(0, 0, side), NONE);
                sheet.due("row " + side, x.row(0, 0, side), BAD);
            }
        });
        term("SHOOTERS 0 .. 5, as they come", () -> {
            FootKeeper x = new FootKeeper();
            for (int i = 0; i < 6; i++) {
                sheet.due("of one who did not come yet", x.of(i, 1), NONE);
                sheet.due("shooter", x.shooter(0, 9 - i), i);
                sheet.due("of one who came", x.of(i, 1), 9 - i);
            }
            sheet.due("a seventh", x.shooter(0, 0), FULL);
            sheet.due("of 6", x.of(6, 1), NONE);
            sheet.due("of -1", x.of(-1, 1), NONE);
        });
        term("are of KINDS: 0 SHOOTER; 1 TURNED, 2 STEADY, 3 WAITING under SHOOTER; 4 CHANGING under TURNED;"
                + " 5 READ under STEADY; 6 TOLD under WAITING;", this::kinds);
        term("with a number v (0 .. 9)", () -> {
            FootKeeper x = new FootKeeper();
            sheet.due("v 0", x.shooter(0, 0), 0);
            sheet.due("v 9", x.shooter(0, 9), 1);
            sheet.due("v -1", x.shooter(0, -1), BAD);
            sheet.due("v 10", x.shooter(0, 10), BAD);
            sheet.due("v of the first", x.of(0, 1), 0);
            sheet.due("v of the second", x.of(1, 1), 9);
        });
        term("the LAST side of each (3: none, at first)", () -> {
            FootKeeper x = Sheet.with("", 0, 0, 1, 0, 2, 0, 3, 0, 4, 0, 5, 0);
            for (int i = 0; i < 6; i++) {
                sheet.due("LAST of " + i, x.of(i, 2), 3);
            }
            sheet.due("LAST of TOLD", Sheet.with("", 6, 0).of(0, 2), 3);
        });
        term("SHOTS and GOALS of each (0 at first)", () -> {
            FootKeeper x = Sheet.with("", 0, 0);
            x.shoot(0, 0);
            x.shooter(0, 0);
            sheet.due("SHOTS of one who comes later", x.of(1, 3), 0);
            sheet.due("GOALS of one who comes later", x.of(1, 4), 0);
            sheet.due("SHOTS of the first", x.of(0, 3), 1);
            sheet.due("GOALS of the first", x.of(0, 4), 1);
        });
        term("GOALS of all, SHOTS of all (0 at first) are of THE ROUND.", () -> {
            FootKeeper x = Sheet.with("", 0, 0);
            sheet.due("SHOTS of all", x.told(0), 0);
            sheet.due("GOALS of all", x.told(1), 0);
            x.shoot(0, 0);
            x.anew();
            sheet.due("SHOTS of a new round", x.told(0), 0);
            sheet.due("GOALS of a new round", x.told(1), 0);
        });
    }

    private void kinds() {
        int[] above = {-1, 0, 0, 0, 1, 2, 3};
        for (int kind = 0; kind < 7; kind++) {
            FootKeeper x = Sheet.with("", kind, 0);
            sheet.due("KIND", x.of(0, 0), kind);
            for (int k = 0; k < 7; k++) {
                boolean is = k == kind || k == 0 || k == above[kind];
                sheet.due(kind + " taken for " + k, x.taken(0, k), is ? kind : CAST);
            }
        }
        FootKeeper x = new FootKeeper();
        for (int kind : new int[] {-1, 7, MAX, MIN}) {
            sheet.due("KIND " + kind, x.shooter(kind, 0), NONE);
        }
        sheet.due("nobody came", x.count(0), 0);
    }

    private void texts() {
        term("THE TEXT (bytes, 100 at most)", () -> {
            FootKeeper x = Sheet.with("", 0, 0, 0, 0);
            String text = "in 1 p<1;".repeat(9) + "in 11 p=11|p=11&p<1";
            Sheet.feed(x, text);
            sheet.due("a hundred", x.count(5), 100);
            sheet.due("one more", x.feed('0'), FULL);
            sheet.due("still a hundred", x.count(5), 100);
            sheet.due("ground", x.ground(), 0);
            sheet.due("all nine clauses hold", x.of(0, 10), 9);
            sheet.due("none for another", x.of(1, 10), 0);
            Sheet.feed(x, "&".repeat(100));
            sheet.due("a fault in a full text", x.ground(), -10);
        });
        term("CLAUSES, 1 to 10, with ; between", () -> {
            String ten = "in 1 p<1;".repeat(9) + "in 1 p<1";
            sheet.fault("", 0);
            sheet.whole("in 1 p<1");
            sheet.whole(ten);
            sheet.due("all ten hold", Sheet.with(ten, 0, 0).of(0, 10), 10);
            sheet.fault(ten + ";", 89);
            sheet.fault(ten + ";in 1 p<1", 89);
            sheet.whole("left p=0;left p=0");
            sheet.fault(";left p=0", 0);
            sheet.fault("left p=0;", 9);
            sheet.fault("left p=0;;left p=0", 9);
            sheet.fault("left p=0; left p=0", 9);
            sheet.fault("left p=0 ;left p=0", 8);
            sheet.fault("left p=0,left p=0", 8);
            sheet.fault(";", 0);
        });
        term("in n E; save n E; left E; right E; stay E", this::words);
        term("(one blank ahead of each part behind the word;", () -> {
            sheet.fault("in5 p=1", 2);
            sheet.fault("in 5p=1", 4);
            sheet.fault("in  5 p=1", 3);
            sheet.fault("in 5  p=1", 5);
            sheet.fault("in 55p=1", 5);
            sheet.fault("save5 p=1", 4);
            sheet.fault("save 5p=1", 6);
            sheet.fault("leftp=1", 4);
            sheet.fault("left  p=1", 5);
            sheet.fault("left\tp=1", 4);
            sheet.fault("right(p=1)", 5);
            sheet.fault("stay!p=1", 4);
            sheet.fault(" stay p=1", 0);
            sheet.fault("stay p=1 ", 8);
            sheet.fault("stay p =1", 6);
            sheet.fault("stay p= 1", 7);
            sheet.fault("stay p=1 &p=1", 8);
            sheet.fault("stay p=1& p=1", 9);
            sheet.fault("stay ( p=1)", 6);
            sheet.fault("stay ! p=1", 6);
        });
        term("n 1 or 2 digits)", () -> {
            sheet.fault("in p=1", 3);
            sheet.fault("in -1 p=1", 3);
            sheet.fault("in :1 p=1", 3);
            sheet.fault("in /1 p=1", 3);
            sheet.fault("in 1: p=1", 4);
            sheet.fault("in 555 p=1", 5);
            sheet.fault("save 000 p=1", 7);
            int[] want = {5, 55, 0, 0, 5, 90, 99};
            String[] texts = {"5", "55", "0", "00", "05", "90", "99"};
            for (int i = 0; i < want.length; i++) {
                FootKeeper x = Sheet.with("in " + texts[i] + " p=0;save " + texts[i] + " p=0", 0, 0);
                sheet.due("SURE by " + texts[i], x.of(0, 10), want[i]);
                sheet.due("SAVES by " + texts[i], x.of(0, 20), want[i]);
            }
        });
    }

    private void words() {
        for (String word : new String[] {"in 5", "save 5", "left", "right", "stay"}) {
            sheet.whole(word + " p=1");
            sheet.fault(word + "", word.length());
            sheet.fault(word + " ", word.length() + 1);
            sheet.fault(word.substring(0, 1), 1);
            sheet.fault(word.substring(0, 1).toUpperCase() + word.substring(1) + " p=1", 0);
        }
        sheet.fault("in", 2);
        sheet.fault("in ", 3);
        sheet.fault("save", 4);
        sheet.fault("save ", 5);
        sheet.fault("inn 5 p=1", 2);
        sheet.fault("saves 5 p=1", 4);
        sheet.fault("lefts p=1", 4);
        sheet.fault("iN 5 p=1", 1);
        sheet.fault("ix", 1);
        sheet.fault("sx", 1);
        sheet.fault("sax", 2);
        sheet.fault("stx", 2);
        sheet.fault("savy", 3);
        sheet.fault("stae", 3);
        sheet.fault("ri", 2);
        sheet.fault("lleft p=1", 1);
        sheet.fault("out 5 p=1", 0);
        sheet.fault("left 5 p=1", 5);
        sheet.fault("right 5 p=1", 6);
        sheet.fault("stay 5 p=1", 5);
        sheet.fault("in 5", 4);
        sheet.fault("save p=1", 5);
    }

    private void grammar() {
        term("E: T or T|E.", () -> {
            sheet.whole("left p=0|p=1|p=2");
            sheet.fault("left |p=1", 5);
            sheet.fault("left p=1|", 9);
            sheet.fault("left p=1||p=1", 9);
            sheet.fault("left p=1|;left p=1", 9);
            FootKeeper x = Sheet.with("", 0, 0);
            sheet.holds(x, "p=1|p=1", false);
            sheet.holds(x, "p=0|p=1", true);
            sheet.holds(x, "p=1|p=0", true);
            sheet.holds(x, "p=1|p=1|p=0", true);
            sheet.holds(x, "p=0|p<0", true);
        });
        term("T: F or F&T.", () -> {
            sheet.whole("left p=0&p=1&p=2");
            sheet.fault("left &p=1", 5);
            sheet.fault("left p=1&", 9);
            sheet.fault("left p=1&&p=1", 9);
            sheet.fault("left p=1&|p=1", 9);
            FootKeeper x = Sheet.with("", 0, 0);
            sheet.holds(x, "p=0&p=0", true);
            sheet.holds(x, "p=0&p=1", false);
            sheet.holds(x, "p=1&p=0", false);
            sheet.holds(x, "p=0|p=1&p=1", true);
            sheet.holds(x, "p=1&p=1|p=0", true);
            x = Sheet.with("", 0, 0);
            sheet.holds(x, "(p=0|p=1)&p=1", false);
        });
        term("F: !F, (E), or a TEST:", () -> {
            sheet.fault("left !", 6);
            sheet.fault("left !|p=1", 6);
            sheet.fault("left p=1!", 8);
            sheet.fault("left ()", 6);
            sheet.fault("left (", 6);
            sheet.fault("left )", 5);
            sheet.fault("left (p=1", 9);
            sheet.fault("left (p=1;left p=1", 9);
            sheet.fault("left p=1)", 8);
            sheet.fault("left (p=1))", 10);
            sheet.fault("left (p=1)(p=1)", 10);
            sheet.fault("left (p=1)p=1", 10);
            FootKeeper x = Sheet.with("", 0, 0);
            sheet.holds(x, "!p=0", false);
            sheet.holds(x, "!p=1", true);
            sheet.holds(x, "!!p=0", true);
            sheet.holds(x, "!p=1&p=1", false);
            sheet.holds(x, "!(p=1&p=1)", true);
            sheet.holds(x, "!p=0|p=0", true);
            x = Sheet.with("", 0, 0);
            sheet.holds(x, "!(p=0|p=0)", false);
            sheet.holdsBy(x, "!s=0", false, true, true);
            sheet.holdsBy(x, "!!s=0|!(s=0|s<2)", true, false, true);
            sheet.holdsBy(x, "p=0&!(s=1&!p=1)", true, false, true);
        });
        term("a letter, < or = or >, a number (1 or 2 digits):", this::tests);
        term("A ( or ! within 4 others is none.", () -> {
            sheet.whole("left ((((p=1))))");
            sheet.fault("left (((((p=1)))))", 9);
            sheet.whole("left !!!!p=1");
            sheet.fault("left !!!!!p=1", 9);
            sheet.whole("left (!(!p=1))");
            sheet.fault("left (!(!(p=1)))", 9);
            sheet.fault("left !(!(!p=1))", 9);
            sheet.fault("left (((((", 9);
            sheet.whole("left ((((p=1))))&((((p=1))))|((((p=1))))");
            sheet.whole("left !!!!p=1&!!!!p=1|!p=1");
            sheet.whole("left (((!p=1&!p=1)|(!p=1)))");
            sheet.fault("left (((!p=1&!!p=1)))", 14);
            sheet.fault("left (((!p=1&(p=1|(p=1)))))", 18);
            sheet.whole("left ((((p=1))));left ((((p=1))))");
            FootKeeper x = Sheet.with("", 0, 0);
            sheet.holds(x, "!!!!p=0", true);
            sheet.holds(x, "!(!(p=0))", true);
            sheet.holds(x, "(p=1|(p=1|(p=1|(p=1|p=0&p<1))))", true);
            sheet.holds(x, "(p=0&(p=0&(p=0&(p=0&p=1|p=2))))", false);
            sheet.holds(x, "p=1|p=1&(p=1|p=1&(p=1|p=1&(p=1|p=1&(p=1|p=1&p=1))))", false);
            sheet.holds(x, "p=1|p=0&(p=1|p=0&(p=1|p=0&(p=1|p=0&(p=1|p=0&p=0))))", true);
        });
        term("The FAULT: the place of the first byte with which none begins so (the end of THE TEXT, if it ends too"
                + " early).", () -> {
            sheet.fault("x", 0);
            sheet.fault("xleft p=1", 0);
            sheet.fault("left p=1x", 8);
            sheet.fault("left p=1\0", 8);
            sheet.fault("left p=1;x", 9);
            sheet.fault("left q=1;x", 5);
            String text = "in 12 !(p<3|k=10)&s>0;save 5 a=1";
            for (int n = 0; n <= text.length(); n++) {
                if (n == 17 || n == 21 || n == 32) {
                    sheet.whole(text.substring(0, n));
                } else {
                    sheet.fault(text.substring(0, n), n);
                }
            }
        });
    }

    private void tests() {
        for (String letter : new String[] {"p", "k", "s", "n", "g", "a"}) {
            sheet.whole("left " + letter + "<0");
            sheet.whole("left " + letter + "=09");
            sheet.whole("left " + letter + ">99");
            sheet.fault("left " + letter, 6);
            sheet.fault("left " + letter + ">", 7);
            sheet.fault("left " + letter.toUpperCase() + "=1", 5);
        }
        sheet.fault("left q=1", 5);
        sheet.fault("left =1", 5);
        sheet.fault("left 1=1", 5);
        sheet.fault("left p", 6);
        sheet.fault("left pp=1", 6);
        sheet.fault("left p!1", 6);
        sheet.fault("left p<=1", 7);
        sheet.fault("left p==1", 7);
        sheet.fault("left p=x", 7);
        sheet.fault("left p=-1", 7);
        sheet.fault("left p=123", 9);
        sheet.fault("left p=1x", 8);
        FootKeeper x = Sheet.with("in 1 p<2;in 2 p=2;in 4 p>2;in 8 p<02;in 16 p<99;in 32 p>00", 0, 0, 0, 0, 0, 0, 0, 0);
        sheet.due("below, a number of two digits", x.of(0, 10), 1 + 8 + 16);
        sheet.due("just below", x.of(1, 10), 1 + 8 + 16 + 32);
        sheet.due("just so", x.of(2, 10), 2 + 16 + 32);
        sheet.due("just above", x.of(3, 10), 4 + 16 + 32);
        x = Sheet.with("in 1 p=10;in 2 p=1;in 4 p<10;in 8 p>09;in 16 p<0;in 32 p>0", 0, 0, 0, 0);
        sheet.due("two digits, 0", x.of(0, 10), 4);
        sheet.due("two digits, 1", x.of(1, 10), 2 + 4 + 32);
    }

    private void values() {
        term("of a SHOOTER and a SIDE p the number of the first, k its KIND,", () -> {
            FootKeeper x = Sheet.with("in 1 p=0;in 2 p=5;in 4 k=0;in 8 k=6;in 16 p>5;in 32 k>6", 6, 3);
            sheet.due("the first number, the last KIND", x.of(0, 10), 1 + 8);
            for (int i = 0; i < 5; i++) {
                x.shooter(0, 7);
            }
            sheet.due("the last number, the first KIND", x.of(5, 10), 2 + 4);
        });
        term("s the SIDE (of left, right, stay: LAST of the SHOOTER)", () -> {
            FootKeeper x = Sheet.with("in 1 s=0;in 2 s=1;in 4 s=2;in 8 s=3;in 16 s>2;save 32 s>1;save 64 s>2", 0, 0);
            for (int last = 0; last < 4; last++) {
                x.last(0, last);
                for (int side = 0; side < 3; side++) {
                    sheet.due("SURE of " + side, x.of(0, 10 + side), 1 << side);
                    sheet.due("SAVES of " + side, x.of(0, 20 + side), side == 2 ? 32 : 0);
                }
            }
            int[][] notes = {{2, 1, 1, 1}, {0, 2, 2, 1}, {0, 1, 2, 2}, {2, 2, 2, 1}};
            String[] conditions = {"s=0", "s>0&s<3", "s=3", "s<3"};
            for (int i = 0; i < conditions.length; i++) {
                FootKeeper y = Sheet.with("right " + conditions[i] + ";stay " + (i == 0 ? "p=0" : "p=1"), 0, 0);
                for (int last = 0; last < 4; last++) {
                    y.last(0, last);
                    sheet.due("NOTE by " + conditions[i] + ", LAST " + last, y.of(0, 6), notes[i][last]);
                }
            }
        });
        term("n SHOTS of the SHOOTER modulo 10", () -> modulo("n", 0, 99, false));
        term("g GOALS of all modulo 10", () -> modulo("g", 3, 0, true));
        term("a SHOTS of all modulo 10.", () -> modulo("a", 0, 99, true));
        term("n SHOTS of the SHOOTER modulo 10, g GOALS of all modulo 10, a SHOTS of all modulo 10.", () -> {
            FootKeeper x = Sheet.with("in 50 p<9;in 1 n=9;in 2 g=9;in 4 a=9;in 8 n=0;in 16 g=0;in 1 a=0;save 0 p=0", 0, 0);
            Sheet.shoot(x, 0, 0, 9);
            sheet.due("nine", x.of(0, 10), 57);
            Sheet.shoot(x, 0, 0, 1);
            sheet.due("ten", x.of(0, 10), 75);
            Sheet.shoot(x, 0, 0, 89);
            sheet.due("99", x.of(0, 10), 57);
            Sheet.shoot(x, 0, 0, 1);
            sheet.due("a hundred", x.of(0, 10), 75);
        });
    }

    /**
     * A letter of shooter 0, who shoots, after some shots that are not in, 22 times by a draw; that of
     * shooter 1, who does not, goes along or stays.
     */
    private void modulo(String letter, int misses, int draw, boolean ofAll) {
        FootKeeper x = Sheet.with("in 60 p<9;in 1 " + letter + "=9;in 2 " + letter + "=0;in 4 " + letter + ">9;save 0 p<9",
                0, 0, 0, 0);
        Sheet.shoot(x, 0, 99, misses);
        for (int i = 0; i < 22; i++) {
            int own = 60 + (i % 10 == 9 ? 1 : 0) + (i % 10 == 0 ? 2 : 0);
            sheet.due(letter + " after " + i, x.of(0, 10), own);
            sheet.due(letter + " of another after " + i, x.of(1, 10), ofAll ? own : 62);
            x.shoot(0, draw);
        }
    }

    private void sums() {
        term("The newest GROUND holds (6 at most); without one there are no CLAUSES.", () -> {
            FootKeeper x = Sheet.with("", 0, 0);
            sheet.due("SURE without a ground", x.of(0, 10), 80);
            sheet.due("SAVES without a ground", x.of(0, 20), 40);
            sheet.due("NOTE without a ground", x.of(0, 6), 1);
            for (int i = 0; i < 6; i++) {
                sheet.due("ground", Sheet.ground(x, "in 1" + i + " p=0"), i);
                sheet.due("the newest holds", x.of(0, 10), 10 + i);
            }
            sheet.due("a seventh", Sheet.ground(x, "in 77 p=0"), FULL);
            sheet.due("the sixth holds", x.of(0, 10), 15);
            sheet.due("six", x.count(1), 6);
        });
        term("SURE of a SHOOTER and a SIDE: the n of all in whose E holds, together", () -> {
            FootKeeper x = Sheet.with("in 5 p=1;in 7 p=0;left p=0;save 9 p=0;in 11 p=0;in 13 s=1", 0, 0);
            sheet.due("left", x.of(0, 10), 18);
            sheet.due("middle", x.of(0, 11), 31);
            sheet.due("right", x.of(0, 12), 18);
        });
        term("(80, if there are no in CLAUSES at all)", () -> {
            for (int side = 0; side < 3; side++) {
                sheet.due("no clauses", Sheet.with("", 0, 0).of(0, 10 + side), 80);
                sheet.due("others only", Sheet.with("save 9 p=0;left p=0", 0, 0).of(0, 10 + side), 80);
                sheet.due("one that does not hold", Sheet.with("in 9 p=1", 0, 0).of(0, 10 + side), 0);
                sheet.due("one that holds for one side", Sheet.with("in 9 s=1", 0, 0).of(0, 10 + side), side == 1 ? 9 : 0);
                sheet.due("one with 0", Sheet.with("in 0 p=0", 0, 0).of(0, 10 + side), 0);
            }
        });
        term("together (80, if there are no in CLAUSES at all), 100 at most.", () -> {
            sheet.due("99", Sheet.with("in 50 p=0;in 49 p=0", 0, 0).of(0, 10), 99);
            sheet.due("just 100", Sheet.with("in 50 p=0;in 50 p=0", 0, 0).of(0, 10), 100);
            sheet.due("101", Sheet.with("in 51 p=0;in 50 p=0", 0, 0).of(0, 10), 100);
            sheet.due("ten of 99", Sheet.with("in 99 p=0;".repeat(9) + "in 99 p=0", 0, 0).of(0, 10), 100);
            FootKeeper x = Sheet.with("in 99 p=0;in 99 p=0;save 30 p=0", 0, 0);
            sheet.due("SAVES are taken off the 100", x.chance(0, 0, 0), 70);
        });
        term("SAVES likewise by save (40, if there are none).", () -> {
            sheet.due("no clauses", Sheet.with("", 0, 0).of(0, 22), 40);
            sheet.due("others only", Sheet.with("in 9 p=0;left p=0", 0, 0).of(0, 22), 40);
            sheet.due("one that does not hold", Sheet.with("save 9 p=1", 0, 0).of(0, 22), 0);
            sheet.due("one that holds for one side", Sheet.with("save 9 s=2", 0, 0).of(0, 22), 9);
            sheet.due("for another side", Sheet.with("save 9 s=2", 0, 0).of(0, 21), 0);
            sheet.due("99", Sheet.with("save 50 p=0;save 49 p=0", 0, 0).of(0, 20), 99);
            sheet.due("just 100", Sheet.with("save 50 p=0;save 50 p=0", 0, 0).of(0, 20), 100);
            sheet.due("101", Sheet.with("save 51 p=0;save 50 p=0", 0, 0).of(0, 20), 100);
            FootKeeper x = Sheet.with("in 99 p=0;in 1 p=0;save 99 p=0;save 99 p=0", 0, 0);
            sheet.due("100 less 100", x.chance(0, 0, 0), 0);
        });
        term("The NOTE: the first of all left, right, stay whose E holds tells 0, 2, 1;", () -> {
            sheet.due("right ahead of left", Sheet.with("right p=0;left p=0", 0, 0).of(0, 6), 2);
            sheet.due("left ahead of right", Sheet.with("left p=0;right p=0;stay p=0", 0, 0).of(0, 6), 0);
            sheet.due("stay ahead of both", Sheet.with("stay p=0;right p=0;left p=0", 0, 0).of(0, 6), 1);
            FootKeeper x = Sheet.with("right p=1;in 9 p=0;save 9 p=0;left p=1;stay p=1;left p=0;right p=0", 0, 0);
            x.last(0, 2);
            sheet.due("the first that holds", x.of(0, 6), 0);
            FootKeeper y = Sheet.with("left p=1;".repeat(9) + "right p=0", 0, 0);
            sheet.due("the tenth", y.of(0, 6), 2);
        });
        term("none: LAST; but 1, if LAST is 3.", () -> {
            int[] want = {0, 1, 2, 1};
            for (String text : new String[] {"", "in 9 p=0", "left p=1;right p=1;stay p=1"}) {
                FootKeeper x = Sheet.with(text, 0, 0);
                for (int last = 0; last < 4; last++) {
                    x.last(0, last);
                    sheet.due("'" + text + "', LAST " + last, x.of(0, 6), want[last]);
                }
            }
        });
    }

    /** AIM by LAST 0 to 3. */
    private void aims(String text, int kind, int v, int... want) {
        FootKeeper x = Sheet.with(text, kind, v);
        for (int last = 0; last < 4; last++) {
            x.last(0, last);
            sheet.due("AIM of " + kind + " with " + v + " by LAST " + last, x.of(0, 5), want[last]);
        }
    }

    private void aims() {
        term("SHOOTER: v modulo 3.", () -> {
            for (int v = 0; v < 10; v++) {
                aims("", 0, v, v % 3, v % 3, v % 3, v % 3);
            }
        });
        term("TURNED: 2 less LAST; but as SHOOTER, if LAST is 1 or 3.", () -> {
            aims("", 1, 0, 2, 0, 0, 0);
            aims("", 1, 4, 2, 1, 0, 1);
            aims("", 1, 8, 2, 2, 0, 2);
        });
        term("STEADY: LAST; but as SHOOTER, if LAST is 3.", () -> {
            aims("", 2, 9, 0, 1, 2, 0);
            aims("", 2, 7, 0, 1, 2, 1);
            aims("", 2, 5, 0, 1, 2, 2);
        });
        term("WAITING: of SIDES that are not the NOTE's that with most SURE (of several the first).", () -> {
            aims("", 3, 2, 1, 0, 0, 0);
            aims(NEVER, 3, 2, 1, 0, 0, 0);
            aims("in 90 s=0;in 50 s=1;in 51 s=2", 3, 0, 2, 0, 0, 0);
            aims("in 9 s=0;in 90 s=1;in 9 s=2", 3, 0, 1, 0, 1, 0);
            aims("in 9 s=0;in 9 s=1;in 90 s=2", 3, 0, 2, 2, 0, 2);
            aims("in 9 s=0;in 10 s=1;in 10 s=2", 3, 0, 1, 2, 1, 2);
            aims("right p=0;in 9 s=0;in 8 s=1;in 90 s=2", 3, 0, 0, 0, 0, 0);
        });
        term("CHANGING: as TURNED, if SHOTS of it are even, else 1.", () -> {
            FootKeeper x = Sheet.with("", 4, 5, 0, 0);
            for (int shots = 0; shots < 4; shots++) {
                int[] want = shots % 2 == 0 ? new int[] {2, 2, 0, 2} : new int[] {1, 1, 1, 1};
                for (int last = 0; last < 4; last++) {
                    x.last(0, last);
                    sheet.due("after " + shots + ", LAST " + last, x.of(0, 5), want[last]);
                }
                x.shoot(0, 99);
                x.shoot(1, 0);
                x.shoot(1, 0);
            }
        });
        term("READ: as STEADY, if SHOTS of it are below 3, else 2 less what STEADY does.", () -> {
            FootKeeper x = Sheet.with("", 5, 3, 0, 0);
            for (int shots = 0; shots < 5; shots++) {
                int[] want = shots < 3 ? new int[] {0, 1, 2, 0} : new int[] {2, 1, 0, 2};
                for (int last = 0; last < 4; last++) {
                    x.last(0, last);
                    sheet.due("after " + shots + ", LAST " + last, x.of(0, 5), want[last]);
                }
                x.shoot(0, 99);
                x.shoot(1, 0);
            }
        });
        term("TOLD: its ROW (four SIDES; 0 at first) at SHOTS of it modulo 4, if the NOTE is 1; else as WAITING.", () -> {
            FootKeeper x = Sheet.with("stay p=0", 6, 2, 0, 0);
            for (int shots = 0; shots < 5; shots++) {
                sheet.due("0 at first", x.shoot(0, 99), 0);
                x.shoot(1, 99);
            }
            x.row(0, 0, 1);
            x.row(0, 2, 2);
            x.row(0, 3, 1);
            int[] want = {0, 2, 1, 1, 0, 2, 1, 1, 0};
            for (int side : want) {
                sheet.due("its ROW", x.shoot(0, 99), side);
            }
            FootKeeper y = Sheet.with("in 5 s<2;in 9 s=2", 6, 0);
            y.row(0, 0, 1);
            int[] byLast = {2, 1, 0, 1};
            for (int last = 0; last < 4; last++) {
                y.last(0, last);
                sheet.due("LAST and NOTE " + last, y.of(0, 5), byLast[last]);
            }
        });
    }

    private void shots() {
        term("CHANCE of a SHOOTER by a SIDE and a DIVE (a SIDE): SURE, less SAVES, if both are the same (0 at least).", () -> {
            int[] saves = {0, 29, 30, 31, 99};
            int[] want = {30, 1, 0, 0, 0};
            for (int i = 0; i < saves.length; i++) {
                FootKeeper x = Sheet.with("in 30 p=0;save " + saves[i] + " p=0", 0, 0);
                sheet.due("the same, SAVES " + saves[i], x.chance(0, 2, 2), want[i]);
                sheet.due("another, SAVES " + saves[i], x.chance(0, 2, 0), 30);
            }
            FootKeeper y = Sheet.with("in 30 s=0;save 9 s=2;in 20 s=2", 0, 0);
            sheet.due("SURE and SAVES of that SIDE", y.chance(0, 2, 2), 11);
            sheet.due("of another SIDE", y.chance(0, 0, 0), 30);
        });
        term("A SHOT of one by a DRAW (0 .. 99):", () -> {
            FootKeeper x = Sheet.with("", 0, 0);
            sheet.due("0", x.shoot(0, 0), 10);
            sheet.due("99", x.shoot(0, 99), 0);
            sheet.due("100", x.shoot(0, 100), BAD);
            sheet.due("-1", x.shoot(0, -1), BAD);
            sheet.due("two shots", x.told(0), 2);
        });
        term("it goes to its AIM, the keeper to the NOTE's; it is IN, if DRAW is below CHANCE.", () -> {
            FootKeeper x = Sheet.with("in 50 p=0;save 20 p=0", 2, 0);
            sheet.due("49, the keeper in the middle", x.shoot(0, 49), 10);
            sheet.due("29, the keeper there", x.shoot(0, 29), 10);
            sheet.due("30, the keeper there", x.shoot(0, 30), 0);
            x.last(0, 3);
            sheet.due("50, the keeper in the middle", x.shoot(0, 50), 0);
            FootKeeper y = Sheet.with(SURELY, 0, 2);
            sheet.due("99 of a hundred", y.shoot(0, 99), 12);
            FootKeeper z = Sheet.with(NEVER, 0, 2);
            sheet.due("0 of none", z.shoot(0, 0), 2);
        });
        term("LAST is that SIDE then, SHOTS (its own, of all) are 1 more, GOALS (its own, of all) 1 more, if it is IN"
                + " (999 at most each).", () -> {
            FootKeeper x = Sheet.with("", 0, 2, 0, 1);
            x.shoot(0, 80);
            x.shoot(1, 39);
            Sheet.shoot(x, 1, 99, 2);
            sheet.due("LAST of the first", x.of(0, 2), 2);
            sheet.due("SHOTS of the first", x.of(0, 3), 1);
            sheet.due("GOALS of the first", x.of(0, 4), 0);
            sheet.due("LAST of the second", x.of(1, 2), 1);
            sheet.due("SHOTS of the second", x.of(1, 3), 3);
            sheet.due("GOALS of the second", x.of(1, 4), 1);
            sheet.due("SHOTS of all", x.told(0), 4);
            sheet.due("GOALS of all", x.told(1), 1);
            // More calls than an object is promised for: 999 is not to be reached with fewer
            FootKeeper y = Sheet.with(SURELY, 0, 1);
            Sheet.shoot(y, 0, 0, 999);
            y.anew();
            Sheet.shoot(y, 0, 0, 2);
            sheet.due("own SHOTS", y.of(0, 3), 999);
            sheet.due("own GOALS", y.of(0, 4), 999);
            sheet.due("SHOTS of all, anew", y.told(0), 2);
        });
        term("All that follows is asked, and changes nothing.", () -> {
            FootKeeper x = Sheet.with("in 60 g=0;in 40 g>0;left n>1", 2, 0, 4, 1);
            Sheet.line(x, 0, 1, 0);
            Sheet.see(x, 0, 0);
            x.book(0, 5);
            for (int i = 0; i < 2; i++) {
                sheet.due("likely", x.likely(3, 1) > 0 ? 1 : 0, 1);
                sheet.due("order", x.order(2) < 0 ? 1 : 0, 0);
                sheet.due("who", x.who(), 1);
                sheet.due("caught", x.caught(0, 3), 2);
                sheet.due("looked", x.looked(), -5);
                sheet.due("forget", x.forget(0, 0), 3);
                sheet.due("SHOTS of all", x.told(0), 0);
                sheet.due("SHOTS of one", x.of(0, 3), 0);
                sheet.due("LAST of one", x.of(0, 2), 3);
            }
        });
    }

    public static void main(String[] args) throws IOException {
        TermTests t = new TermTests();
        t.shooters();
        t.texts();
        t.grammar();
        t.values();
        t.sums();
        t.aims();
        t.shots();
        t.sheet.end();
    }
}
