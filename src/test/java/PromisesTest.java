/** For each promise of the document: ordinary inputs, its edges, wrong inputs; answers worked out by hand. */
public final class PromisesTest {
    private static final int NONE = -1, UNKNOWN = -1000000001, OUTSIDE = -1000000002, NOT = -1000000003, FULL = -1000000004;
    private static final int MIN = Integer.MIN_VALUE, MAX = Integer.MAX_VALUE;
    // A has letters 0, 1; B has 0, 2: 0 is shared
    private static final String SMALL = "a1 2;a2 0;b4 1;b0 4;";
    private static final String REFUTED = "a1 2;a2 0;b4 1;b0 4;r1 0 1;r4 2 0;r5 3 2;";

    private static int wrong = 0;
    private static String promise = "";

    private static void due(String call, int got, int want) {
        if (got != want) {
            wrong++;
            System.out.println("promise " + promise + ": " + call + " answered " + got + ", due is " + want);
        }
    }

    private static void feedAll(BetweenBoth x, String text) {
        for (int i = 0; i < text.length(); i++) {
            x.feed(text.charAt(i));
        }
    }

    private static int tell(BetweenBoth x, String text) {
        feedAll(x, text);
        return x.parties();
    }

    private static BetweenBoth of(String text) {
        BetweenBoth x = new BetweenBoth();
        int answer = tell(x, text);
        if (answer < 0) {
            wrong++;
            System.out.println("promise " + promise + ": text " + text + " was refused with " + answer);
        }
        return x;
    }

    private static String times(int n, String s) {
        return s.repeat(n);
    }

    public static void main(String[] args) {
        constants();
        p1newObject();
        p2feed();
        p3parties();
        p3imagesAndUndoAreGone();
        p4fault();
        p4faultsOfTheText();
        p5told();
        p5least();
        p6colour();
        p7step();
        p8holds();
        p9resolve();
        p10seek();
        p11undo();
        p12sentence();
        p13about();
        p14between();
        p15saysMore();
        p16needless();
        p17sum();
        p18weigh();
        p19weighed();
        p20sums();
        p21seekWeights();
        p22clear();
        p23keep();
        p24goBack();
        System.out.println(wrong == 0 ? "all answers are as due" : wrong + " answers are not as due");
        if (wrong != 0) {
            System.exit(1);
        }
    }

    private static void constants() {
        promise = "of the face";
        due("NONE", BetweenBoth.NONE, NONE);
        due("UNKNOWN", BetweenBoth.UNKNOWN, UNKNOWN);
        due("OUTSIDE", BetweenBoth.OUTSIDE, OUTSIDE);
        due("NOT", BetweenBoth.NOT, NOT);
        due("FULL", BetweenBoth.FULL, FULL);
    }

    private static void p1newObject() {
        promise = "1";
        BetweenBoth x = new BetweenBoth();
        int[] want = {0, 0, NONE, 0, 256, 256, 256, NONE, 0, 0, 0};
        for (int what = 0; what < want.length; what++) {
            due("told(" + what + ")", x.told(what), want[what]);
        }
        due("fault()", x.fault(), NONE);
        due("step(0, 0)", x.step(0, 0), UNKNOWN);
        due("undo()", x.undo(), NOT);
        due("goBack(0)", x.goBack(0), NOT);
        due("weigh(0, 0)", x.weigh(0, 0), UNKNOWN);
    }

    private static void p2feed() {
        promise = "2";
        BetweenBoth x = new BetweenBoth();
        due("feed(-1)", x.feed(-1), OUTSIDE);
        due("feed(256)", x.feed(256), OUTSIDE);
        due("feed(MIN)", x.feed(MIN), OUTSIDE);
        due("feed(MAX)", x.feed(MAX), OUTSIDE);
        due("told(8)", x.told(8), 0);
        due("feed(0)", x.feed(0), 1);
        due("feed(255)", x.feed(255), 2);
        for (int n = 3; n <= 240; n++) {
            due("feed(32)", x.feed(32), n);
        }
        due("feed(32) of a full text", x.feed(32), FULL);
        due("feed(256) of a full text", x.feed(256), OUTSIDE);
        due("told(8)", x.told(8), 240);
        due("parties()", x.parties(), -11);
        due("feed(97)", x.feed(97), 1);
    }

    private static void p3parties() {
        promise = "3";
        BetweenBoth x = new BetweenBoth();
        due("an empty text", x.parties(), 0);
        due("blanks", tell(x, "    "), 0);
        due("small", tell(x, SMALL), 4);
        due("told(8)", x.told(8), 0);
        due("refuted", tell(x, REFUTED), 7);
        due("blanks all over", tell(x, "  a  1   2 ;a2 0;b 4 1;b0 4 ;r 1 0 1 ;  "), 5);
        due("three figures", tell(x, "a001 002;a128 000;b000 255;"), 3);
        due("step(2, 1)", x.step(2, 1), 255);
        due("sum", x.sum(0, 1, 2, 3, 4, 5), 0);
        due("with a fault", tell(x, "a1 1;"), -14);
        due("told(8)", x.told(8), 0);
        due("told(1), all as it was", x.told(1), 3);
        due("step(0, 1), all as it was", x.step(0, 1), 2);
        due("colour(2), all as it was", x.colour(2), 1);
        due("a fault behind good clauses", tell(x, "b1 0;b1 0;b2 0;b4 0;x"), -11);
        due("told(1), all as it was", x.told(1), 3);
        due("step(1, 0), all as it was", x.step(1, 0), 128);
        due("told(3), all as it was", x.told(3), 128 | 1 | 2);
        due("an empty text", x.parties(), 0);
        due("told(1)", x.told(1), 0);
        due("colour(1)", x.colour(1), NONE);
        due("SUMS stay", x.told(9), 1);
        due("ten clauses", tell(x, times(10, "a0 1;")), 10);
        due("thirty steps", tell(x, "a1 0;b0 1;" + times(30, "r0 1 0;")), 32);
        due("a step of steps", tell(x, "b0 4;a7 0;r1 0 2;a1 0;"), -11);
        due("a step of steps", tell(x, "b0 4;b0 2;a7 0;r2 0 2;r3 1 1;"), 5);
        due("step(4, 0)", x.step(4, 0), 1);
        due("clauses after r are none", x.told(0), 3);
    }

    private static void p3imagesAndUndoAreGone() {
        promise = "3";
        BetweenBoth x = of(SMALL);
        x.keep(0);
        x.keep(1);
        x.resolve(1, 0, 1);
        due("with a fault", tell(x, "?"), -11);
        due("told(10), all as it was", x.told(10), 1);
        due("undo(), all as it was", x.undo(), 0);
        due("goBack(1), all as it was", x.goBack(1), 4);
        x.resolve(1, 0, 1);
        due("parties()", tell(x, SMALL), 4);
        due("told(10)", x.told(10), 0);
        due("undo()", x.undo(), NOT);
        due("goBack(0)", x.goBack(0), NOT);
        due("goBack(1)", x.goBack(1), NOT);
    }

    private static void p4fault() {
        promise = "4";
        BetweenBoth x = new BetweenBoth();
        tell(x, "a1 2;  q");
        due("fault()", x.fault(), 7);
        feedAll(x, "a1 1;");
        due("fault() ahead of parties()", x.fault(), 7);
        x.parties();
        due("fault()", x.fault(), 3);
        tell(x, SMALL);
        due("fault() of a good text", x.fault(), NONE);
        tell(x, "a");
        due("fault()", x.fault(), 1);
        x.parties();
        due("fault() of an empty text", x.fault(), NONE);
    }

    private static void faulty(String text, int fault, int at) {
        BetweenBoth x = new BetweenBoth();
        due("parties() of '" + text + "'", tell(x, text), -10 - fault);
        due("fault() of '" + text + "'", x.fault(), at);
        due("told(1) after '" + text + "'", x.told(1), 0);
    }

    private static void p4faultsOfTheText() {
        promise = "4";
        faulty(";", 1, 0);
        faulty("  5", 1, 2);
        faulty("c1 2;", 1, 0);
        faulty("A1 2;", 1, 0);
        faulty("R1 2;", 1, 0);
        faulty("a;", 1, 1);
        faulty("a1;", 1, 2);
        faulty("a12;", 1, 3);
        faulty("a1 2 4;", 1, 5);
        faulty("a1 2", 1, 4);
        faulty("a1 2  ", 1, 6);
        faulty("a1 ", 1, 3);
        faulty("a", 1, 1);
        faulty("a1-2;", 1, 2);
        faulty("a-1 2;", 1, 1);
        faulty("aa1 2;", 1, 1);
        faulty("a1 2;;", 1, 5);
        faulty("a1 b;", 1, 3);
        faulty("a1 2\n;", 1, 4);
        faulty("a1 2" + (char) 160 + ";", 1, 4);
        faulty("a1/2;", 1, 2);
        faulty("a1:2;", 1, 2);
        faulty("a1 0;b0 1;r0 1;", 1, 14);
        faulty("a1 0;b0 1;r0 1 0 0;", 1, 17);
        faulty("a1 0;b0 1;r0 1 0", 1, 16);
        faulty("a1 0;b0 1;r0 1 0;b1 0;", 1, 17);
        faulty("a256 0;", 2, 1);
        faulty("a999 0;", 2, 1);
        faulty("a0 256;", 2, 3);
        faulty("a0001 0;", 2, 1);
        faulty("a 0001", 2, 2);
        faulty("a0 00000000000000000000000001;", 2, 3);
        faulty("a1 256;", 2, 3);
        faulty("a1 0001;", 2, 3);
        faulty("a1 99999999999999999999;", 2, 3);
        faulty("r0 0 0;", 2, 1);
        faulty("r", 1, 1);
        faulty("a1 0;b0 1;r2 1 0;", 2, 11);
        faulty("a1 0;b0 1;r0 2 0;", 2, 13);
        faulty("a1 0;b0 1;r0 1 8;", 2, 15);
        faulty("a1 0;b0 1;r1 0 8;", 2, 15);
        faulty("a1 0;b0 1;r0 1 0000;", 2, 15);
        faulty("a1 0;b0 1;r0 1 0;r0 3 0;", 2, 20);
        faulty(times(10, "a1 0;") + "a", 3, 50);
        faulty(times(10, "b1 0;") + " b1 0;", 3, 51);
        faulty("a1 0;b0 1;" + times(30, "r0 1 0;") + "r", 3, 220);
        faulty("a1 0;b0 1;" + times(30, "r0 1 0;") + "a", 1, 220);
        faulty("a3 2;", 4, 3);
        faulty("a255 128;", 4, 5);
        faulty("a3  2?", 4, 4);
        faulty("a0 1;r0 0 0;", 4, 10);
        faulty("a1 0;b0 1;r1 0 0;", 4, 15);
        faulty("a1 0;b0 1;r0 1 1;", 4, 15);
        faulty("a3 0;b0 3;r0 1 0;", 4, 15);
        faulty("a3 0;b0 3;r0 1  1", 4, 16);
        faulty("a1 2;b2 1;r0 1 0;", 4, 15);
        // the longest text, faulty at its end
        faulty(times(10, "a0 1;") + times(189, " ") + "a", 3, 239);
        faulty(times(239, " ") + "a", 1, 240);
    }

    private static void p5told() {
        promise = "5";
        BetweenBoth x = of(REFUTED);
        feedAll(x, "a1");
        x.sum(0, 0, 0, 0, 0, 0);
        x.sum(0, 0, 0, 0, 0, 0);
        x.sum(0, 0, 0, 0, 0, 0);
        x.resolve(2, 0, 0);
        x.resolve(2, 0, 0);
        x.resolve(0, 2, 0);
        // A: letters 0 and 1 so; B: letters 0 and 2 not so
        int[] want = {4, 8, 6, 1, 64, 64, 0, 15, 2, 3, 1};
        for (int what = 0; what < want.length; what++) {
            due("told(" + what + ")", x.told(what), want[what]);
        }
        due("told(-1)", x.told(-1), OUTSIDE);
        due("told(11)", x.told(11), OUTSIDE);
        due("told(MIN)", x.told(MIN), OUTSIDE);
        due("told(MAX)", x.told(MAX), OUTSIDE);
        x = of("a128 0;b1 64;b3 0;");
        due("worlds of A", x.told(4), 128);
        due("worlds of B, letter 0, or 1 and not 6", x.told(5), 160);
        due("worlds of both", x.told(6), 80);
        due("shared", x.told(3), 0);
        x = of("a0 0;b0 0;");
        due("the first EMPTY STEP, a clause", x.told(2), 0);
        due("worlds of A", x.told(4), 0);
    }

    private static void p5least() {
        promise = "5";
        due("none contradict", of("a1 2;b2 0;").told(7), NONE);
        due("an EMPTY CLAUSE", of("a1 0;b0 1;a0 0;b0 0;").told(7), 4);
        due("the fewest, not the least set", of("a1 2;a2 0;b0 1;b8 0;b0 8;").told(7), 24);
        due("of like ones the least", of("b8 0;a1 0;b0 8;a0 1;").told(7), 5);
        due("of like ones the least", of("a0 1;b8 0;b0 8;a1 0;").told(7), 6);
        due("within one party", of("a1 0;a0 1;").told(7), 3);
        due("nine of ten", of("a1 0;a2 1;a4 2;a8 4;a16 8;b32 16;b64 32;b128 64;b0 128;b0 128;").told(7), 511);
        due("all ten", of("a1 0;a2 1;a4 2;a8 4;a16 8;b32 16;b192 32;b128 96;b64 160;b0 224;").told(7), 1023);
    }

    private static void p6colour() {
        promise = "6";
        BetweenBoth x = of("a1 2;a128 0;b8 16;b0 1;a16 0;");
        int[] want = {2, 0, NONE, 1, 2, NONE, NONE, 0};
        for (int letter = 0; letter < 8; letter++) {
            due("colour(" + letter + ")", x.colour(letter), want[letter]);
        }
        due("colour(-1)", x.colour(-1), UNKNOWN);
        due("colour(8)", x.colour(8), UNKNOWN);
        due("colour(MIN)", x.colour(MIN), UNKNOWN);
        due("colour(33)", x.colour(33), UNKNOWN);
    }

    private static void p7step() {
        promise = "7";
        BetweenBoth x = of(REFUTED);
        int[][] want = {
            {1, 2, 0, NONE, NONE, NONE, 1, 1},
            {2, 0, 0, NONE, NONE, NONE, 2, 1},
            {4, 1, 1, NONE, NONE, NONE, 4, 1},
            {0, 4, 1, NONE, NONE, NONE, 8, 1},
            {1, 0, NONE, 1, 0, 1, 3, 2},
            {4, 0, NONE, 4, 2, 0, 7, 3},
            {0, 0, NONE, 5, 3, 2, 15, 4}};
        for (int s = 0; s < want.length; s++) {
            for (int what = 0; what < 8; what++) {
                due("step(" + s + ", " + what + ")", x.step(s, what), want[s][what]);
            }
        }
        due("step(-1, 0)", x.step(-1, 0), UNKNOWN);
        due("step(7, 0)", x.step(7, 0), UNKNOWN);
        due("step(7, 8)", x.step(7, 8), UNKNOWN);
        due("step(MIN, MIN)", x.step(MIN, MIN), UNKNOWN);
        due("step(0, 8)", x.step(0, 8), OUTSIDE);
        due("step(0, -1)", x.step(0, -1), OUTSIDE);
        due("step(6, MAX)", x.step(6, MAX), OUTSIDE);
        // the longer of both rows counts, on whichever side it stands
        x = of("a1 0;b2 1;b4 2;b0 4;r1 2 1;r0 4 0;r5 3 2;r2 3 2;");
        due("step(5, 7)", x.step(5, 7), 3);
        due("step(6, 7)", x.step(6, 7), 4);
        due("step(7, 7)", x.step(7, 7), 2);
        due("step(7, 6)", x.step(7, 6), 12);
    }

    private static void p8holds() {
        promise = "8";
        BetweenBoth x = of("a1 2;b128 0;a0 0;b0 128;r1 3 7;");
        int[] want = {1, 1, 0, 1};
        for (int world = 0; world < 4; world++) {
            due("holds(0, " + world + ")", x.holds(0, world), want[world]);
        }
        due("holds(1, 127)", x.holds(1, 127), 0);
        due("holds(1, 128)", x.holds(1, 128), 1);
        due("holds(3, 127)", x.holds(3, 127), 1);
        due("holds(3, 255)", x.holds(3, 255), 0);
        for (int world = 0; world < 256; world++) {
            due("an EMPTY one, holds(" + (world % 2 * 2 + 2) + ", " + world + ")", x.holds(world % 2 * 2 + 2, world), 0);
        }
        due("holds(5, 0)", x.holds(5, 0), UNKNOWN);
        due("holds(-1, 0)", x.holds(-1, 0), UNKNOWN);
        due("holds(5, 256)", x.holds(5, 256), UNKNOWN);
        due("holds(0, 256)", x.holds(0, 256), OUTSIDE);
        due("holds(0, -1)", x.holds(0, -1), OUTSIDE);
        due("holds(0, MIN)", x.holds(0, MIN), OUTSIDE);
    }

    private static void p9resolve() {
        promise = "9";
        BetweenBoth x = of("a1 2;a2 0;b4 1;b2 1;");
        due("resolve(0, 0, 0)", x.resolve(0, 0, 0), UNKNOWN);
        due("resolve(0, 4, 0)", x.resolve(0, 4, 0), UNKNOWN);
        due("resolve(4, 0, 0)", x.resolve(4, 0, 0), UNKNOWN);
        due("resolve(-1, 0, 0)", x.resolve(-1, 0, 0), UNKNOWN);
        due("resolve(1, 0, 8)", x.resolve(1, 0, 8), UNKNOWN);
        due("resolve(1, 0, -1)", x.resolve(1, 0, -1), UNKNOWN);
        due("resolve(1, 0, 33)", x.resolve(1, 0, 33), UNKNOWN);
        due("resolve(0, 1, 1), the wrong way", x.resolve(0, 1, 1), NOT);
        due("resolve(1, 2, 0), the first has it not", x.resolve(1, 2, 0), NOT);
        due("resolve(1, 2, 1), the second has it not", x.resolve(1, 2, 1), NOT);
        due("resolve(0, 3, 0), one both ways", x.resolve(0, 3, 0), NOT);
        due("told(1), nothing changed", x.told(1), 4);
        due("told(10), nothing changed", x.told(10), 0);
        due("resolve(0, 2, 0)", x.resolve(0, 2, 0), 4);
        due("step(4, 0)", x.step(4, 0), 4);
        due("step(4, 1)", x.step(4, 1), 2);
        due("resolve(1, 4, 1)", x.resolve(1, 4, 1), 5);
        due("step(5, 0)", x.step(5, 0), 4);
        due("step(5, 1)", x.step(5, 1), 0);
        due("step(5, 6)", x.step(5, 6), 7);
        for (int s = 6; s < 34; s++) {
            due("one that there is may come again", x.resolve(0, 2, 0), s);
        }
        due("FULL", x.resolve(0, 2, 0), FULL);
        due("NOT is ahead of FULL", x.resolve(0, 1, 0), NOT);
        due("UNKNOWN is ahead of FULL", x.resolve(0, 34, 0), UNKNOWN);
        due("told(1)", x.told(1), 34);
        x = of("a1 0;b0 1;" + times(30, "r0 1 0;"));
        due("those of the text count", x.resolve(0, 1, 0), FULL);
    }

    private static void p10seek() {
        promise = "10";
        BetweenBoth x = of(SMALL);
        // J 1: 1 with 0 by 1 (a1); J 2: 0 with 2 by 0; J 3: 2 with 3 by 2 (b0 1);
        // J 4 (1 0): 2 by 0; J 5 (4 2): 1 by 1 is covered by (4 0) of 4 and 2, 3 by 2 (0 2);
        due("seek()", x.seek(), 6);
        int[][] made = {{1, 0, 1, 1, 0}, {0, 2, 0, 4, 2}, {2, 3, 2, 0, 1}, {4, 2, 0, 4, 0}, {5, 3, 2, 0, 2}, {4, 6, 0, 0, 0}};
        for (int m = 0; m < made.length; m++) {
            due("I of " + m, x.step(4 + m, 3), made[m][0]);
            due("J of " + m, x.step(4 + m, 4), made[m][1]);
            due("by of " + m, x.step(4 + m, 5), made[m][2]);
            due("P of " + m, x.step(4 + m, 0), made[m][3]);
            due("N of " + m, x.step(4 + m, 1), made[m][4]);
        }
        due("told(2)", x.told(2), 9);
        due("seek() again", x.seek(), 0);
        due("told(10)", x.told(10), 1);
        due("nothing to make", of("a1 0;b2 0;").seek(), 0);
        due("covered", of("a1 2;b4 1;a4 2;").seek(), 0);
        due("covered by the first", of("a4 2;a1 2;b4 1;").seek(), 0);
        due("covered by the first EMPTY CLAUSE", of("a0 0;a1 0;b0 1;").seek(), 0);
        due("covered by an EMPTY CLAUSE", of("a1 0;b0 1;a0 0;").seek(), 0);
        due("two letters meet", of("a3 0;b0 3;").seek(), 0);
        due("it ends with an EMPTY one", of("a1 0;b0 1;a2 0;b0 2;").seek(), 1);
        x = of("a21 0;a2 1;a2 4;a2 16;b8 2;b32 8;b64 8;b0 96;b128 64;b0 160;");
        due("seek() ends with 30", x.seek(), 30);
        due("told(1)", x.told(1), 40);
        due("seek() with 30", x.seek(), 0);
        x = of("a1 0;b2 1;b4 2;" + times(30, "r0 1 0;"));
        due("seek() with 30 of the text", x.seek(), 0);
        x = of("a1 0;b2 1;b4 2;" + times(29, "r0 1 0;"));
        due("seek() with 29 of the text", x.seek(), 1);
    }

    private static void p11undo() {
        promise = "11";
        BetweenBoth x = of(REFUTED);
        due("steps of the text are not undone", x.undo(), NOT);
        x = of(SMALL);
        x.resolve(1, 0, 1);
        x.resolve(4, 2, 0);
        due("seek()", x.seek() > 1 ? 1 : 0, 1);
        due("told(10)", x.told(10), 3);
        due("undo() of all of seek()", x.undo(), 2);
        due("told(1)", x.told(1), 6);
        due("undo()", x.undo(), 1);
        due("told(1)", x.told(1), 5);
        due("step(5, 0)", x.step(5, 0), UNKNOWN);
        due("undo()", x.undo(), 0);
        due("told(1)", x.told(1), 4);
        due("undo()", x.undo(), NOT);
        due("told(1)", x.told(1), 4);
        for (int n = 0; n < 10; n++) {
            x.resolve(1, 0, 1);
        }
        due("told(10), 8 are known", x.told(10), 8);
        for (int n = 7; n >= 0; n--) {
            due("undo()", x.undo(), n);
        }
        due("undo()", x.undo(), NOT);
        due("told(1)", x.told(1), 6);
        due("what made nothing", x.resolve(0, 1, 1), NOT);
        due("what made nothing", x.undo(), NOT);
        x = of("a1 0;b2 0;");
        x.seek();
        due("seek() that made nothing", x.told(10), 0);
        due("seek() that made nothing", x.undo(), NOT);
    }

    private static void sentenceIs(BetweenBoth x, int system, int s, int... soOfLow) {
        for (int world = 0; world < soOfLow.length; world++) {
            due("sentence(" + system + ", " + s + ", " + world + ")", x.sentence(system, s, world), soOfLow[world]);
        }
    }

    /** Shared are 1 and 2; A alone has 0, B alone 3; EMPTY is 10. By the systems it is 1 and not 2; not 2; not 1 or not 2. */
    private static final String THREE_WAYS =
            "a1 2;a0 5;a2 0;b4 2;b10 0;b0 8;r0 1 0;r2 6 1;r4 3 1;r8 5 3;r9 7 2;";
    /** Shared are 0 and 1; either way, 0 is other than 1; EMPTY is 6. */
    private static final String UNLIKE = "a3 0;a0 3;b2 1;b1 2;r0 2 0;r3 1 0;r4 5 1;";

    private static void p12sentence() {
        promise = "12";
        // shared are 0 and 1; A alone has 2, B alone 3; A says 0 or 1
        BetweenBoth x = of("a5 0;a2 4;b8 1;b0 8;b0 2;r0 1 2;r2 3 3;r5 6 0;r7 4 1;");
        sentenceIs(x, 0, 0, 0, 1, 0, 1);
        sentenceIs(x, 0, 1, 0, 0, 1, 1);
        sentenceIs(x, 0, 2, 1, 1, 1, 1);
        sentenceIs(x, 0, 5, 0, 1, 1, 1);
        sentenceIs(x, 0, 6, 1, 1, 1, 1);
        sentenceIs(x, 0, 7, 0, 1, 1, 1);
        sentenceIs(x, 0, 8, 0, 1, 1, 1);
        sentenceIs(x, 1, 0, 0, 0, 0, 0);
        sentenceIs(x, 1, 4, 1, 1, 1, 1);
        sentenceIs(x, 1, 5, 0, 0, 0, 0);
        sentenceIs(x, 1, 6, 1, 1, 1, 1);
        sentenceIs(x, 1, 7, 0, 1, 0, 1);
        sentenceIs(x, 1, 8, 0, 1, 1, 1);
        sentenceIs(x, 2, 1, 0, 0, 0, 0);
        sentenceIs(x, 2, 2, 0, 1, 0, 1);
        sentenceIs(x, 2, 3, 1, 1, 1, 1);
        sentenceIs(x, 2, 4, 0, 0, 1, 1);
        sentenceIs(x, 2, 5, 0, 0, 0, 0);
        sentenceIs(x, 2, 6, 0, 1, 0, 1);
        sentenceIs(x, 2, 7, 0, 1, 0, 1);
        sentenceIs(x, 2, 8, 0, 1, 1, 1);
        due("sentence(0, 0, 252)", x.sentence(0, 0, 252), 0);
        due("sentence(0, 0, 253)", x.sentence(0, 0, 253), 1);
        x = of(THREE_WAYS);
        sentenceIs(x, 0, 10, 0, 0, 1, 1, 0, 0, 0, 0);
        sentenceIs(x, 1, 10, 1, 1, 1, 1, 0, 0, 0, 0);
        sentenceIs(x, 2, 10, 1, 1, 1, 1, 1, 1, 0, 0);
        x = of("a64 128;b128 64;");
        due("a high letter", x.sentence(0, 0, 64), 1);
        due("a high letter", x.sentence(0, 0, 128), 0);
        due("a high letter", x.sentence(0, 0, 192), 1);
        due("a high letter", x.sentence(2, 1, 64), 1);
        due("a high letter", x.sentence(2, 1, 0), 0);
        due("sentence(0, 2, 0)", x.sentence(0, 2, 0), UNKNOWN);
        due("sentence(3, -1, 256)", x.sentence(3, -1, 256), UNKNOWN);
        due("sentence(3, 0, 0)", x.sentence(3, 0, 0), OUTSIDE);
        due("sentence(-1, 0, 0)", x.sentence(-1, 0, 0), OUTSIDE);
        due("sentence(0, 0, 256)", x.sentence(0, 0, 256), OUTSIDE);
        due("sentence(0, 0, -1)", x.sentence(0, 0, -1), OUTSIDE);
        due("sentence(MIN, 0, MAX)", x.sentence(MIN, 0, MAX), OUTSIDE);
    }

    private static void aboutIs(BetweenBoth x, int system, int s, int... want) {
        for (int what = 0; what < 3; what++) {
            due("about(" + system + ", " + s + ", " + what + ")", x.about(system, s, what), want[what]);
        }
    }

    private static void p13about() {
        promise = "13";
        BetweenBoth x = of(THREE_WAYS);
        aboutIs(x, 0, 10, 64, 6, 2);
        aboutIs(x, 1, 10, 128, 4, 1);
        aboutIs(x, 2, 10, 192, 6, 2);
        aboutIs(x, 0, 3, 256, 0, 0);
        aboutIs(x, 1, 0, 0, 0, 0);
        x = of(UNLIKE);
        aboutIs(x, 0, 6, 128, 3, 3);
        aboutIs(x, 1, 6, 128, 3, 3);
        aboutIs(x, 2, 6, 128, 3, 3);
        x = of("a255 0;b85 170;");
        aboutIs(x, 0, 0, 255, 255, 8);
        aboutIs(x, 2, 1, 1, 255, 8);
        for (int letter = 0; letter < 8; letter++) {
            x = of("a" + (1 << letter) + " 0;b0 " + (1 << letter) + ";");
            aboutIs(x, 0, 0, 128, 1 << letter, 1);
            aboutIs(x, 2, 1, 128, 1 << letter, 1);
        }
        due("about(0, 2, 0)", x.about(0, 2, 0), UNKNOWN);
        due("about(3, 2, 3)", x.about(3, 2, 3), UNKNOWN);
        due("about(0, -1, 0)", x.about(0, -1, 0), UNKNOWN);
        due("about(3, 0, 0)", x.about(3, 0, 0), OUTSIDE);
        due("about(-1, 0, 0)", x.about(-1, 0, 0), OUTSIDE);
        due("about(0, 0, 3)", x.about(0, 0, 3), OUTSIDE);
        due("about(0, 0, -1)", x.about(0, 0, -1), OUTSIDE);
    }

    private static void p14between() {
        promise = "14";
        String[] texts = {REFUTED, THREE_WAYS, UNLIKE, "a0 0;b1 0;", "b0 0;a1 0;", "a1 0;a0 1;r0 1 0;", "b1 0;b0 1;r0 1 0;"};
        for (String text : texts) {
            BetweenBoth x = of(text);
            for (int system = 0; system < 3; system++) {
                due("between(" + system + ") of " + text, x.between(system), 7);
            }
        }
        BetweenBoth x = of(SMALL);
        due("between(0)", x.between(0), NOT);
        due("between(3)", x.between(3), OUTSIDE);
        due("between(-1)", x.between(-1), OUTSIDE);
        due("between(MIN)", x.between(MIN), OUTSIDE);
        x.seek();
        due("between(0)", x.between(0), 7);
        x.undo();
        due("between(0)", x.between(0), NOT);
    }

    private static void p15saysMore() {
        promise = "15";
        BetweenBoth x = of(THREE_WAYS);
        for (int system = 0; system < 3; system++) {
            for (int other = 0; other < 3; other++) {
                due("saysMore(10, " + system + ", " + other + ")", x.saysMore(10, system, other), system <= other ? 1 : 0);
            }
        }
        due("saysMore(4, 0, 2), always", x.saysMore(4, 0, 2), 0);
        due("saysMore(4, 2, 0), not 1", x.saysMore(4, 2, 0), 1);
        due("saysMore(0, 0, 1), not 1, never", x.saysMore(0, 0, 1), 0);
        due("saysMore(0, 1, 2), never both", x.saysMore(0, 1, 2), 1);
        // 7 or not 6; 7: they differ only where neither is so
        BetweenBoth high = of("b0 192;a128 64;r1 0 7;");
        due("saysMore(2, 0, 1)", high.saysMore(2, 0, 1), 0);
        due("saysMore(2, 1, 0)", high.saysMore(2, 1, 0), 1);
        due("saysMore(11, 0, 1)", x.saysMore(11, 0, 1), UNKNOWN);
        due("saysMore(-1, 3, 3)", x.saysMore(-1, 3, 3), UNKNOWN);
        due("saysMore(0, 3, 0)", x.saysMore(0, 3, 0), OUTSIDE);
        due("saysMore(0, 0, 3)", x.saysMore(0, 0, 3), OUTSIDE);
        due("saysMore(0, -1, 0)", x.saysMore(0, -1, 0), OUTSIDE);
        due("saysMore(0, 0, MIN)", x.saysMore(0, 0, MIN), OUTSIDE);
    }

    private static void p16needless() {
        promise = "16";
        BetweenBoth x = of(REFUTED);
        due("needless()", x.needless(), 0);
        x.resolve(0, 2, 0);
        due("one behind", x.needless(), 1);
        x.resolve(5, 3, 2);
        due("another EMPTY one", x.needless(), 2);
        x = of("a1 0;b0 1;r0 1 0;r0 1 0;r0 1 0;");
        due("the first EMPTY one alone", x.needless(), 2);
        x = of("a1 2;a2 0;b4 1;b0 4;r0 2 0;r2 3 2;r1 0 1;r6 5 0;");
        due("one ahead", x.needless(), 1);
        x = of("a1 0;b2 1;a0 0;r0 1 0;r0 1 0;");
        due("an EMPTY CLAUSE", x.needless(), 2);
        x = of(SMALL);
        x.resolve(1, 0, 1);
        due("no EMPTY STEP", x.needless(), NOT);
    }

    private static void p17sum() {
        promise = "17";
        BetweenBoth x = new BetweenBoth();
        due("party", x.sum(2, 0, 0, 0, 0, 0), OUTSIDE);
        due("party", x.sum(-1, 0, 0, 0, 0, 0), OUTSIDE);
        for (int place = 0; place < 4; place++) {
            for (int sign = -1; sign <= 1; sign += 2) {
                int[] n = new int[4];
                n[place] = 10 * sign;
                due("number " + place, x.sum(0, n[0], n[1], n[2], n[3], 0), OUTSIDE);
                n[place] = sign < 0 ? MIN : MAX;
                due("number " + place, x.sum(1, n[0], n[1], n[2], n[3], 0), OUTSIDE);
            }
        }
        due("K", x.sum(0, 0, 0, 0, 0, 100), OUTSIDE);
        due("K", x.sum(0, 0, 0, 0, 0, -100), OUTSIDE);
        due("told(9)", x.told(9), 0);
        for (int s = 0; s < 8; s++) {
            due("sum", x.sum(s & 1, s % 2 == 0 ? 9 : -9, 9, -9, s, s % 2 == 0 ? 99 : -99), s);
            due("WEIGHT 0 at first", x.weigh(s, 0), 0);
        }
        due("FULL", x.sum(0, 0, 0, 0, 0, 0), FULL);
        due("OUTSIDE is ahead of FULL", x.sum(0, 0, 0, 0, 10, 0), OUTSIDE);
        due("told(9)", x.told(9), 8);
    }

    private static void p18weigh() {
        promise = "18";
        BetweenBoth x = new BetweenBoth();
        due("weigh(0, 0)", x.weigh(0, 0), UNKNOWN);
        x.sum(0, 1, 0, 0, 0, 1);
        x.sum(1, 1, 0, 0, 0, 1);
        due("weigh(1, 20)", x.weigh(1, 20), 0);
        due("weigh(1, 3)", x.weigh(1, 3), 20);
        due("weigh(1, 21)", x.weigh(1, 21), OUTSIDE);
        due("weigh(1, -1)", x.weigh(1, -1), OUTSIDE);
        due("weigh(2, 0)", x.weigh(2, 0), UNKNOWN);
        due("weigh(2, 21)", x.weigh(2, 21), UNKNOWN);
        due("weigh(-1, 0)", x.weigh(-1, 0), UNKNOWN);
        due("weigh(MIN, MIN)", x.weigh(MIN, MIN), UNKNOWN);
        due("weigh(8, 0)", x.weigh(8, 0), UNKNOWN);
        due("weigh(1, 0)", x.weigh(1, 0), 3);
        due("weigh(0, 0)", x.weigh(0, 0), 0);
    }

    private static void p19weighed() {
        promise = "19";
        BetweenBoth x = new BetweenBoth();
        x.sum(0, 1, 2, 3, 4, 5);
        x.sum(1, -9, 9, 0, 1, -99);
        x.sum(0, 0, -1, 5, -4, 7);
        x.weigh(0, 3);
        x.weigh(1, 20);
        x.weigh(2, 2);
        int[] all = {-177, 184, 19, 24, -1951};
        int[] middle = {3, 4, 19, 4, 29};
        for (int what = 0; what < 5; what++) {
            due("weighed(0, " + what + ")", x.weighed(0, what), all[what]);
            due("weighed(1, " + what + ")", x.weighed(1, what), middle[what]);
        }
        due("weighed(2, 0)", x.weighed(2, 0), OUTSIDE);
        due("weighed(-1, 0)", x.weighed(-1, 0), OUTSIDE);
        due("weighed(0, 5)", x.weighed(0, 5), OUTSIDE);
        due("weighed(1, -1)", x.weighed(1, -1), OUTSIDE);
        due("weighed(MAX, MIN)", x.weighed(MAX, MIN), OUTSIDE);
    }

    private static void sumsAre(BetweenBoth x, int... want) {
        for (int what = 0; what < 4; what++) {
            due("sums(" + what + ")", x.sums(what), want[what]);
        }
    }

    private static void p20sums() {
        promise = "20";
        BetweenBoth x = new BetweenBoth();
        sumsAre(x, 0, 15, 0, 1);
        x.sum(0, 1, 0, 2, 0, 0);
        x.sum(1, -1, 0, 0, 3, -1);
        sumsAre(x, 0, 3, 0, 1);
        x.weigh(0, 1);
        sumsAre(x, 0, 3, 5, 0);
        x.sum(0, 0, 0, -2, 0, 0);
        x.weigh(2, 1);
        sumsAre(x, 0, 3, 1, 1);
        x.weigh(1, 1);
        sumsAre(x, 0, 3, 1, 1);
        x.sum(1, 0, 0, 0, -3, 1);
        x.weigh(3, 1);
        due("K is 0", x.weighed(0, 4), 0);
        sumsAre(x, 0, 3, 1, 1);
        x.sum(1, 0, 0, 0, 0, -1);
        x.weigh(4, 1);
        sumsAre(x, 1, 3, 1, 1);
        x.sum(0, 0, 0, 0, 1, 0);
        sumsAre(x, 1, 11, 1, 1);
        for (int unknown = 0; unknown < 4; unknown++) {
            BetweenBoth left = new BetweenBoth();
            left.sum(0, unknown == 0 ? 1 : 0, unknown == 1 ? 1 : 0, unknown == 2 ? 1 : 0, unknown == 3 ? 1 : 0, -1);
            left.weigh(0, 1);
            sumsAre(left, 0, 15 & ~(1 << unknown), 1 << unknown, 0);
        }
        due("sums(4)", x.sums(4), OUTSIDE);
        due("sums(-1)", x.sums(-1), OUTSIDE);
        due("sums(MIN)", x.sums(MIN), OUTSIDE);
    }

    private static void weightsAre(BetweenBoth x, int... want) {
        for (int s = 0; s < want.length; s++) {
            int was = x.weigh(s, 0);
            x.weigh(s, was < 0 ? 0 : was);
            due("weight of " + s, was, want[s]);
        }
    }

    private static BetweenBoth ofTwo(int first, int second) {
        BetweenBoth x = new BetweenBoth();
        x.sum(0, first, 0, 0, 0, 0);
        x.sum(1, second, 0, 0, 0, -1);
        return x;
    }

    private static void p21seekWeights() {
        promise = "21";
        BetweenBoth x = new BetweenBoth();
        due("no SUMS", x.seekWeights(), NOT);
        x.sum(0, 1, 0, 0, 0, 1);
        x.sum(1, -1, 0, 0, 0, -2);
        x.sum(1, -1, 0, 0, 0, -3);
        due("seekWeights()", x.seekWeights(), 1);
        weightsAre(x, 1, 0, 1);
        x = ofTwo(2, -3);
        due("seekWeights()", x.seekWeights(), 3);
        weightsAre(x, 3, 2);
        x = ofTwo(5, -6);
        due("seekWeights()", x.seekWeights(), 6);
        weightsAre(x, 6, 5);
        x = ofTwo(1, -6);
        due("seekWeights()", x.seekWeights(), 6);
        weightsAre(x, 6, 1);
        x = ofTwo(1, -7);
        x.weigh(0, 14);
        x.weigh(1, 2);
        due("none refute", x.seekWeights(), NONE);
        weightsAre(x, 14, 2);
        due("by hand", x.sums(0), 1);
        // with 2 at most only, though SUM 0 would be less with 3
        x = new BetweenBoth();
        x.sum(0, 1, 0, 0, 0, 0);
        x.sum(1, -2, 0, 0, 0, -1);
        x.sum(0, 3, 0, 0, 0, 0);
        due("seekWeights()", x.seekWeights(), 2);
        weightsAre(x, 1, 2, 1);
        x = new BetweenBoth();
        for (int s = 0; s < 6; s++) {
            x.sum(s & 1, 0, 0, 0, 0, s == 5 ? -1 : 0);
        }
        due("six", x.seekWeights(), 1);
        weightsAre(x, 0, 0, 0, 0, 0, 1);
        x.sum(0, 0, 0, 0, 0, 0);
        due("seven", x.seekWeights(), NOT);
        weightsAre(x, 0, 0, 0, 0, 0, 1, 0);
        // a long row: each unknown passes its number on
        x = new BetweenBoth();
        x.sum(0, 1, 0, 0, 0, -1);
        x.sum(1, -1, 2, 0, 0, 0);
        x.sum(0, 0, -1, 1, 0, 0);
        x.sum(1, 0, 0, -1, 3, 0);
        x.sum(0, 0, 0, 0, -1, 0);
        due("seekWeights()", x.seekWeights(), 6);
        weightsAre(x, 1, 1, 2, 2, 6);
    }

    private static void p22clear() {
        promise = "22";
        BetweenBoth x = of(SMALL);
        x.sum(0, 1, 2, 3, 4, 5);
        x.weigh(0, 7);
        due("clear()", x.clear(), 1);
        for (int what = 0; what < 5; what++) {
            due("weighed(0, " + what + ")", x.weighed(0, what), 0);
            due("weighed(1, " + what + ")", x.weighed(1, what), 0);
        }
        sumsAre(x, 0, 15, 0, 1);
        due("clear()", x.clear(), 0);
        x.sum(0, 1, 0, 0, 0, -1);
        x.sum(1, 1, 0, 0, 0, -1);
        x.weigh(0, 5);
        due("clear()", x.clear(), 2);
        due("told(9)", x.told(9), 0);
        due("told(1)", x.told(1), 4);
        due("weighed(0, 4)", x.weighed(0, 4), 0);
        due("weigh(0, 1)", x.weigh(0, 1), UNKNOWN);
        due("sum", x.sum(0, 1, 0, 0, 0, -1), 0);
        due("a new SUM's WEIGHT", x.weigh(0, 1), 0);
        due("clear()", x.clear(), 1);
    }

    private static void p23keep() {
        promise = "23";
        BetweenBoth x = of(SMALL);
        x.resolve(1, 0, 1);
        due("keep(2)", x.keep(2), UNKNOWN);
        due("keep(-1)", x.keep(-1), UNKNOWN);
        due("keep(MIN)", x.keep(MIN), UNKNOWN);
        due("told(10)", x.told(10), 1);
        due("keep(1)", x.keep(1), 5);
        due("told(10)", x.told(10), 0);
        due("undo()", x.undo(), NOT);
        due("told(1)", x.told(1), 5);
        due("goBack(0)", x.goBack(0), NOT);
        x.resolve(4, 2, 0);
        due("keep(1) anew", x.keep(1), 6);
        due("keep(0)", x.keep(0), 6);
        x.resolve(5, 3, 2);
        due("goBack(1)", x.goBack(1), 6);
        due("keep(0) of no STEPS", new BetweenBoth().keep(0), 0);
    }

    private static void p24goBack() {
        promise = "24";
        BetweenBoth x = of(SMALL);
        due("goBack(0)", x.goBack(0), NOT);
        due("goBack(2)", x.goBack(2), UNKNOWN);
        due("goBack(-1)", x.goBack(-1), UNKNOWN);
        due("goBack(MAX)", x.goBack(MAX), UNKNOWN);
        x.keep(0);
        x.resolve(1, 0, 1);
        x.resolve(4, 2, 0);
        x.sum(0, 1, 0, 0, 0, 0);
        x.keep(1);
        due("goBack(0)", x.goBack(0), 4);
        due("told(1)", x.told(1), 4);
        x.resolve(2, 3, 2);
        due("a refused goBack changes nothing", x.goBack(2), UNKNOWN);
        due("told(10)", x.told(10), 1);
        due("step(4, 1)", x.step(4, 1), 1);
        due("goBack(1)", x.goBack(1), 6);
        due("told(10)", x.told(10), 0);
        due("undo()", x.undo(), NOT);
        due("step(4, 0)", x.step(4, 0), 1);
        due("step(4, 1)", x.step(4, 1), 0);
        due("step(5, 3)", x.step(5, 3), 4);
        due("step(5, 7)", x.step(5, 7), 3);
        due("SUMS stay", x.told(9), 1);
        x.resolve(5, 3, 2);
        due("goBack(1) again", x.goBack(1), 6);
        due("told(2)", x.told(2), NONE);
        due("resolve(5, 3, 2)", x.resolve(5, 3, 2), 6);
        due("goBack(0) again", x.goBack(0), 4);
        due("colour(0)", x.colour(0), 2);
        BetweenBoth none = new BetweenBoth();
        none.keep(1);
        due("goBack(1) to no STEPS", none.goBack(1), 0);
    }
}
