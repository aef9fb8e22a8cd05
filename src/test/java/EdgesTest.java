import java.lang.reflect.Method;
import java.util.ArrayList;
import java.util.Arrays;
import java.util.HashMap;
import java.util.List;
import java.util.Map;

/**
 * The document's boundary cases, each by a test of its own on a new object. A test is a method whose name
 * begins with the promise that it looks at, or with the part of the document's Terms (t0: ahead of the parts).
 * Answers are worked out by hand. Calls are counted: nothing is promised behind the 512th.
 */
public final class EdgesTest {
    private static final int NONE = -1, UNKNOWN = -1000000001, OUTSIDE = -1000000002, NOT = -1000000003, FULL = -1000000004;
    private static final int MIN = Integer.MIN_VALUE, MAX = Integer.MAX_VALUE;
    /** A has letters 0, 1; B has 0, 2. */
    private static final String SMALL = "a1 2;a2 0;b4 1;b0 4;";
    private static final String REFUTED = SMALL + "r1 0 1;r4 2 0;r5 3 2;";
    private static final String TWO = "a1 0;b0 1;";
    private static final String STEP = "r0 1 0;";
    /** Thirty steps are sought of it, and no EMPTY one comes. */
    private static final String ENDLESS = "a21 0;a2 1;a2 4;a2 16;b8 2;b32 8;b64 8;b0 96;b128 64;b0 160;";

    private static final Map<String, Method> FACE = new HashMap<>();
    private static BetweenBoth x;
    private static int calls;
    private static String test = "";
    private static int wrong = 0;

    // ---- the tools of the tests

    public static void main(String[] args) throws Exception {
        for (Method m : BetweenBoth.class.getDeclaredMethods()) {
            FACE.put(m.getName(), m);
        }
        List<String> names = new ArrayList<>();
        for (Method m : EdgesTest.class.getDeclaredMethods()) {
            if (m.getName().matches("(p[0-9][0-9]|t[0-3])_.*")) {
                names.add(m.getName());
            }
        }
        names.sort(null);
        for (int promise = 1; promise <= 24; promise++) {
            String head = String.format("p%02d_", promise);
            expect(names.stream().anyMatch(name -> name.startsWith(head)), "promise " + promise + " has no test");
        }
        for (String name : names) {
            test = name;
            fresh();
            EdgesTest.class.getDeclaredMethod(name).invoke(null);
        }
        System.out.println(names.size() + " boundary cases: " + (wrong == 0 ? "all answers are as due" : wrong + " answers are not as due"));
        if (wrong != 0) {
            System.exit(1);
        }
    }

    private static void expect(boolean held, String otherwise) {
        if (!held) {
            wrong++;
            System.out.println(test + ": " + otherwise);
        }
    }

    private static void fresh() {
        x = new BetweenBoth();
        calls = 0;
    }

    private static int call(String name, int... args) {
        calls++;
        expect(calls != 513, "the test makes more than 512 calls");
        try {
            return (Integer) FACE.get(name).invoke(x, Arrays.stream(args).boxed().toArray());
        } catch (ReflectiveOperationException e) {
            expect(false, name + Arrays.toString(args) + " threw " + e.getCause());
            return 0;
        }
    }

    private static void is(int want, String name, int... args) {
        int got = call(name, args);
        expect(got == want, name + Arrays.toString(args) + " answered " + got + ", due is " + want);
    }

    private static void feedAll(String text) {
        for (int i = 0; i < text.length(); i++) {
            call("feed", text.charAt(i));
        }
    }

    /** A new object with the text's STEPS. */
    private static void of(String text) {
        fresh();
        feedAll(text);
        int answer = call("parties");
        expect(answer >= 0, "'" + text + "' was refused with " + answer);
    }

    private static void good(String text, int steps) {
        fresh();
        feedAll(text);
        is(steps, "parties");
        is(NONE, "fault");
        is(steps, "told", 1);
    }

    private static void faulty(String text, int fault, int at) {
        fresh();
        feedAll(text);
        is(-10 - fault, "parties");
        is(at, "fault");
        is(0, "told", 1);
        is(0, "told", 8);
    }

    private static String times(int n, String s) {
        return s.repeat(n);
    }

    private static void again(int n, int first, String name, int... args) {
        for (int k = 0; k < n; k++) {
            is(first + k, name, args);
        }
    }

    /** All that can be read without changing it; WEIGHTS are set to 0 and back. */
    private static List<Integer> all() {
        List<Integer> all = new ArrayList<>();
        for (int what = 0; what <= 10; what++) all.add(call("told", what));
        all.add(call("fault"));
        int steps = call("told", 1);
        for (int s = 0; s < steps; s++) {
            for (int what = 0; what <= 5; what++) all.add(call("step", s, what));
        }
        int sums = call("told", 9);
        for (int s = 0; s < sums; s++) {
            int weight = call("weigh", s, 0);
            call("weigh", s, weight);
            all.add(weight);
        }
        for (int what = 0; what <= 4; what++) {
            all.add(call("weighed", 0, what));
            all.add(call("weighed", 1, what));
        }
        all.add(call("sums", 1));
        return all;
    }

    private static void changesNothing(Runnable refused) {
        List<Integer> ahead = all();
        refused.run();
        List<Integer> behind = all();
        expect(ahead.equals(behind), "something changed: " + ahead + " to " + behind);
    }

    private static void weightsAre(int... want) {
        for (int s = 0; s < want.length; s++) {
            int weight = call("weigh", s, 0);
            if (weight >= 0) call("weigh", s, weight);
            expect(weight == want[s], "the WEIGHT of SUM " + s + " is " + weight + ", due is " + want[s]);
        }
    }

    private static void sums(int n) {
        for (int s = 0; s < n; s++) {
            is(s, "sum", 1, 0, 0, 0, 0, 0);
        }
    }

    /** SUMS of one unknown: a of A at most 0, b of B at most -1. */
    private static void twoSums(int a, int b) {
        fresh();
        is(0, "sum", 0, a, 0, 0, 0, 0);
        is(1, "sum", 1, b, 0, 0, 0, -1);
    }

    private static void sentenceIs(int system, int s, int... soInWorlds) {
        for (int world = 0; world < soInWorlds.length; world++) {
            is(soInWorlds[world], "sentence", system, s, world);
        }
    }

    private static void sentenceIsAll(int want, int system, int s) {
        is(want == 1 ? 256 : 0, "about", system, s, 0);
        is(want, "sentence", system, s, 0);
        is(want, "sentence", system, s, 255);
    }

    private static void aboutIs(int system, int s, int worlds, int letters, int parts) {
        is(worlds, "about", system, s, 0);
        is(letters, "about", system, s, 1);
        is(parts, "about", system, s, 2);
    }

    // ---- Terms, ahead of the parts: numbers, SETS, refusals

    static void t0_theConstants() {
        expect(BetweenBoth.NONE == -1, "NONE");
        expect(BetweenBoth.UNKNOWN == -1000000001, "UNKNOWN");
        expect(BetweenBoth.OUTSIDE == -1000000002, "OUTSIDE");
        expect(BetweenBoth.NOT == -1000000003, "NOT");
        expect(BetweenBoth.FULL == -1000000004, "FULL");
    }

    static void t0_stepsHaveNumbersFrom0On() {
        of("a1 0;b2 0;");
        is(1, "step", 0, 0);
        is(2, "step", 1, 0);
        is(UNKNOWN, "step", 2, 0);
    }

    static void t0_madeStepsHaveTheNextNumber() {
        of(TWO);
        is(2, "resolve", 0, 1, 0);
        is(3, "resolve", 0, 1, 0);
    }

    static void t0_anUndoneStepsNumberComesAgain() {
        of(TWO);
        is(2, "resolve", 0, 1, 0);
        is(0, "undo");
        is(2, "resolve", 0, 1, 0);
    }

    static void t0_sumsHaveNumbersFrom0On() {
        again(3, 0, "sum", 0, 0, 0, 0, 0, 0);
    }

    static void t0_sumsHaveNumbersFrom0OnBehindClear() {
        sums(3);
        is(3, "clear");
        is(0, "sum", 0, 0, 0, 0, 0, 0);
    }

    static void t0_theLeastBitOfASetIsLetter0() {
        of("a1 0;b0 1;");
        is(1, "told", 3);
        is(2, "colour", 0);
    }

    static void t0_theGreatestBitOfASetIsLetter7() {
        of("a128 0;b0 128;");
        is(128, "told", 3);
        is(2, "colour", 7);
    }

    static void t0_unknownIsAheadOfOutside() {
        of(TWO);
        is(UNKNOWN, "step", 2, 8);
        is(UNKNOWN, "holds", 2, 256);
        is(UNKNOWN, "sentence", 3, 2, 256);
        is(UNKNOWN, "about", 3, 2, 3);
        is(UNKNOWN, "saysMore", 2, 3, 3);
        is(UNKNOWN, "weigh", 0, 21);
    }

    static void t0_unknownIsAheadOfNot() {
        of(TWO);
        is(UNKNOWN, "resolve", 1, 2, 0);
        is(UNKNOWN, "resolve", 1, 0, 8);
        is(UNKNOWN, "goBack", 2);
    }

    static void t0_unknownIsAheadOfFull() {
        of(TWO + times(30, STEP));
        is(UNKNOWN, "resolve", 0, 32, 0);
        is(UNKNOWN, "resolve", 0, 0, 0);
        is(UNKNOWN, "resolve", 0, 1, 8);
    }

    static void t0_outsideIsAheadOfNot() {
        is(OUTSIDE, "between", 3);
    }

    static void t0_outsideIsAheadOfFull() {
        again(240, 1, "feed", 32);
        is(OUTSIDE, "feed", 256);
        sums(8);
        is(OUTSIDE, "sum", 2, 0, 0, 0, 0, 0);
        is(OUTSIDE, "sum", 0, 0, 0, 0, 0, 100);
    }

    static void t0_notIsAheadOfFull() {
        of(TWO + times(30, STEP));
        is(NOT, "resolve", 1, 0, 0);
    }

    static void t0_oneStepTwiceIsUnknown() {
        of("a1 2;b2 1;");
        is(UNKNOWN, "resolve", 0, 0, 0);
        is(UNKNOWN, "resolve", 1, 1, 1);
    }

    static void t0_whatIsRefusedAsUnknownChangesNothing() {
        of(SMALL);
        is(4, "resolve", 1, 0, 1);
        is(0, "sum", 0, 1, 2, 3, 4, 5);
        is(0, "weigh", 0, 7);
        feedAll("a1");
        changesNothing(() -> {
            is(UNKNOWN, "resolve", 0, 0, 0);
            is(UNKNOWN, "resolve", 4, 5, 0);
            is(UNKNOWN, "resolve", 4, 2, 8);
            is(UNKNOWN, "weigh", 1, 3);
            is(UNKNOWN, "colour", 8);
            is(UNKNOWN, "step", 5, 0);
            is(UNKNOWN, "holds", 5, 0);
            is(UNKNOWN, "sentence", 0, 5, 0);
            is(UNKNOWN, "about", 0, 5, 0);
            is(UNKNOWN, "saysMore", 5, 0, 1);
            is(UNKNOWN, "keep", 2);
            is(UNKNOWN, "goBack", 2);
        });
    }

    static void t0_whatIsRefusedAsOutsideChangesNothing() {
        of(SMALL);
        is(4, "resolve", 1, 0, 1);
        is(0, "sum", 0, 1, 2, 3, 4, 5);
        is(0, "weigh", 0, 7);
        feedAll("a1");
        changesNothing(() -> {
            is(OUTSIDE, "feed", 256);
            is(OUTSIDE, "feed", -1);
            is(OUTSIDE, "told", 11);
            is(OUTSIDE, "step", 0, 8);
            is(OUTSIDE, "holds", 0, 256);
            is(OUTSIDE, "sentence", 3, 0, 0);
            is(OUTSIDE, "about", 0, 0, 3);
            is(OUTSIDE, "between", 3);
            is(OUTSIDE, "saysMore", 0, 3, 0);
            is(OUTSIDE, "sum", 0, 10, 0, 0, 0, 0);
            is(OUTSIDE, "weigh", 0, 21);
            is(OUTSIDE, "weighed", 2, 0);
            is(OUTSIDE, "sums", 4);
        });
    }

    static void t0_whatIsRefusedAsNotChangesNothing() {
        of(SMALL);
        sums(7);
        is(0, "weigh", 6, 20);
        changesNothing(() -> {
            is(NOT, "resolve", 0, 1, 1);
            is(NOT, "undo");
            is(NOT, "between", 0);
            is(NOT, "needless");
            is(NOT, "seekWeights");
            is(NOT, "goBack", 0);
        });
    }

    static void t0_aFullTextStaysAsItWas() {
        feedAll(times(235, " ") + "a1 0;");
        is(FULL, "feed", 'x');
        is(240, "told", 8);
        is(1, "parties");
    }

    static void t0_fullStepsStayAsTheyWere() {
        of(TWO + times(22, STEP));
        again(8, 24, "resolve", 0, 1, 0);
        is(FULL, "resolve", 0, 1, 0);
        is(32, "told", 1);
        is(8, "told", 10);
        is(7, "undo");
        is(31, "told", 1);
    }

    static void t0_fullSumsStayAsTheyWere() {
        sums(8);
        changesNothing(() -> is(FULL, "sum", 0, 1, 1, 1, 1, 1));
    }

    static void t0_oneObjectKnowsNothingOfAnother() {
        of(REFUTED);
        sums(2);
        feedAll("a1");
        fresh();
        is(0, "told", 1);
        is(0, "told", 8);
        is(0, "told", 9);
    }

    // ---- Terms, part 1: CLAUSES, WORLDS, the text and its faults

    static void t1_aClauseHoldsByOneOfP() {
        of("a3 4;");
        is(0, "holds", 0, 4);
        is(1, "holds", 0, 5);
        is(1, "holds", 0, 6);
    }

    static void t1_aClauseHoldsByOneOfN() {
        of("a4 3;");
        is(0, "holds", 0, 3);
        is(1, "holds", 0, 1);
        is(1, "holds", 0, 2);
    }

    static void t1_aClauseWithoutLettersHoldsNowhere() {
        of("a0 0;");
        for (int world = 0; world <= 255; world++) {
            is(0, "holds", 0, world);
        }
    }

    static void t1_aClauseOfAllLettersAsTheyAre() {
        of("a255 0;");
        is(0, "holds", 0, 0);
        is(1, "holds", 0, 1);
        is(1, "holds", 0, 128);
        is(255, "told", 4);
    }

    static void t1_aClauseOfAllLettersNotSo() {
        of("b0 255;");
        is(0, "holds", 0, 255);
        is(1, "holds", 0, 254);
        is(1, "holds", 0, 127);
        is(255, "told", 5);
    }

    static void t1_anEmptyText() {
        good("", 0);
    }

    static void t1_aTextOfOneBlank() {
        good(" ", 0);
    }

    static void t1_aTextOf240Blanks() {
        good(times(240, " "), 0);
    }

    static void t1_theLongestTextEndsWithItsClause() {
        good(times(235, " ") + "a1 0;", 1);
    }

    static void t1_theLongestTextEndsWithoutSemicolon() {
        faulty(times(236, " ") + "a1 0", 1, 240);
    }

    static void t1_theLongestTextIsWrongAtItsLastLetter() {
        faulty(times(239, " ") + ";", 1, 239);
    }

    static void t1_oneClauseOfEitherParty() {
        good("a1 0;", 1);
        is(0, "step", 0, 2);
        good("b1 0;", 1);
        is(1, "step", 0, 2);
    }

    static void t1_tenClausesMayCome() {
        good(times(5, "a1 0;b0 1;"), 10);
    }

    static void t1_anEleventhClauseOfA() {
        faulty(times(10, "b1 0;") + "a1 0;", 3, 50);
    }

    static void t1_anEleventhClauseOfB() {
        faulty(times(10, "a1 0;") + "b1 0;", 3, 50);
    }

    static void t1_anEleventhClauseIsWrongAtItsWordNotBehind() {
        faulty(times(10, "a1 0;") + "  a999?", 3, 52);
    }

    static void t1_stepsMayComeBehindTenClauses() {
        good(times(5, "a1 0;b0 1;") + STEP, 11);
    }

    static void t1_thirtyStepsMayCome() {
        good(TWO + times(30, STEP), 32);
    }

    static void t1_a31stStep() {
        faulty(TWO + times(30, STEP) + STEP, 3, 220);
    }

    static void t1_a31stStepIsWrongAtItsWordNotBehind() {
        faulty(TWO + times(30, STEP) + " r99?", 3, 221);
    }

    static void t1_stepsAheadOfClauses() {
        faulty("r0 1 0;" + TWO, 2, 1);
    }

    static void t1_aClauseOfABehindAStep() {
        faulty(TWO + STEP + "a1 0;", 1, 17);
    }

    static void t1_aClauseOfBBehindAStep() {
        faulty(TWO + STEP + "b1 0;", 1, 17);
    }

    static void t1_numbersOfOneTwoThreeFigures() {
        good("a1 8;a32 64;b128 000;b000 016;", 4);
        is(1, "step", 0, 0);
        is(64, "step", 1, 1);
        is(128, "step", 2, 0);
        is(16, "step", 3, 1);
    }

    static void t1_aNumberWithoutFigures() {
        faulty("a;", 1, 1);
        faulty("a1;", 1, 2);
        faulty(TWO + "r;", 1, 11);
        faulty(TWO + "r0;", 1, 12);
        faulty(TWO + "r0 1;", 1, 14);
    }

    static void t1_aPOfFourFigures() {
        faulty("a0001 0;", 2, 1);
    }

    static void t1_anNOfFourFigures() {
        faulty("a0 0001;", 2, 3);
    }

    static void t1_anIOfFourFigures() {
        faulty(TWO + "r0000 1 0;", 2, 11);
    }

    static void t1_aJOfFourFigures() {
        faulty(TWO + "r0 0001 0;", 2, 13);
    }

    static void t1_aVOfFourFigures() {
        faulty(TWO + "r0 1 0000;", 2, 15);
    }

    static void t1_aNumberOf239Figures() {
        faulty("a" + times(239, "9"), 2, 1);
    }

    static void t1_aNumberThatWouldWrapAround() {
        // 2 to the 32nd and one more, 2 to the 64th: as int, 1 and 0
        faulty("a4294967297 0;", 2, 1);
        faulty("a0 18446744073709551616;", 2, 3);
    }

    static void t1_theLeastAndGreatestP() {
        good("a0 1;a255 0;", 2);
        is(0, "step", 0, 0);
        is(255, "step", 1, 0);
    }

    static void t1_aPTooLarge() {
        faulty("a256 0;", 2, 1);
        faulty("b999 0;", 2, 1);
    }

    static void t1_theLeastAndGreatestN() {
        good("a1 0;a0 255;", 2);
        is(0, "step", 0, 1);
        is(255, "step", 1, 1);
    }

    static void t1_anNTooLarge() {
        faulty("a0 256;", 2, 3);
        faulty("b0 999;", 2, 3);
    }

    static void t1_aNumberBelow0CannotStand() {
        faulty("a-1 0;", 1, 1);
        faulty("a0 -1;", 1, 3);
    }

    static void t1_theLastStepAhead() {
        good("a1 2;a2 0;b0 1;r1 0 1;r3 2 0;", 5);
        is(3, "step", 4, 3);
    }

    static void t1_aStepOfTwoFigures() {
        good("a1 0;b2 1;b0 2;" + times(7, "a1 0;") + "r0 1 0;r10 002 1;", 12);
        is(10, "step", 11, 3);
        is(2, "step", 11, 4);
    }

    static void t1_anIThatThereIsNot() {
        faulty(TWO + "r2 1 0;", 2, 11);
    }

    static void t1_aJThatThereIsNot() {
        faulty(TWO + "r0 2 0;", 2, 13);
    }

    static void t1_aStepBehindIsNotThere() {
        faulty(TWO + "r0 3 0;" + STEP, 2, 13);
    }

    static void t1_noStepIsThereInATextOfStepsAlone() {
        faulty("r0 0 0;", 2, 1);
    }

    static void t1_stepsOfTheLatestTextAreNotThere() {
        of(TWO);
        feedAll("r0 1 0;");
        is(-12, "parties");
        is(1, "fault");
        is(2, "told", 1);
    }

    static void t1_theLeastAndGreatestV() {
        good("a1 0;b0 1;r0 1 0;", 3);
        good("a128 0;b0 128;r0 1 7;", 3);
        is(7, "step", 2, 5);
    }

    static void t1_aVTooLarge() {
        faulty(TWO + "r0 1 8;", 2, 15);
        faulty(TWO + "r0 1 255;", 2, 15);
        // as a shift, 32 would be 0
        faulty(TWO + "r0 1 32;", 2, 15);
    }

    static void t1_blanksMayStandAnywhere() {
        good("  a  1  2  ;  b  0  1  ;  r  0  1  0  ;  ", 3);
    }

    static void t1_noBlankIsNeededButBetweenNumbers() {
        good("a1 2;b0 1;r0 1 0;", 3);
    }

    static void t1_aBlankWithinANumberMakesTwo() {
        faulty("a1 2 8;", 1, 5);
        faulty("a0 1;b1 6 4;", 1, 10);
    }

    static void t1_twoNumbersWithoutABlankAreOne() {
        faulty("a12;", 1, 3);
        faulty(TWO + "r01 0;", 1, 15);
        faulty(TWO + "r0 10;", 2, 13);
    }

    static void t1_otherWhiteSignsAreNoBlanks() {
        for (int sign : new int[] {0, 9, 10, 13, 31, 33, 160}) {
            faulty("a1 0" + (char) sign + ";", 1, 4);
        }
    }

    static void t1_signsBesideTheFiguresAreNone() {
        faulty("a/ 0;", 1, 1);
        faulty("a: 0;", 1, 1);
        faulty("a1/ 0;", 1, 2);
        faulty("a1: 0;", 1, 2);
    }

    static void t1_aLetterThatIsNoWord() {
        for (char sign : "cqsAR`0;".toCharArray()) {
            faulty(sign + "1 0;", 1, 0);
        }
    }

    static void t1_theLeastAndGreatestLetterAreNoWords() {
        faulty((char) 0 + "1 0;", 1, 0);
        faulty((char) 255 + "1 0;", 1, 0);
    }

    static void t1_aLetterThatIsNoWordBehindAClause() {
        faulty("a1 0;x", 1, 5);
        faulty("a1 0;;", 1, 5);
        faulty("a1 0;1", 1, 5);
        faulty(TWO + STEP + "x", 1, 17);
    }

    static void t1_aWordOfTwoLetters() {
        faulty("aa1 0;", 1, 1);
        faulty("ab1 0;", 1, 1);
        faulty(TWO + "rr0 1 0;", 1, 11);
    }

    static void t1_aWordWhereANumberMustStand() {
        faulty("a1 b1 0;", 1, 3);
        faulty(TWO + "r0 a 0;", 1, 13);
    }

    static void t1_aThirdNumberOfAClause() {
        faulty("a1 2 4;", 1, 5);
    }

    static void t1_aFourthNumberOfAStep() {
        faulty(TWO + "r0 1 0 0;", 1, 17);
    }

    static void t1_theEndBehindEachPieceOfAClause() {
        faulty("a", 1, 1);
        faulty("a1", 1, 2);
        faulty("a1 2", 1, 4);
    }

    static void t1_theEndBehindEachPieceOfAStep() {
        faulty(TWO + "r", 1, 11);
        faulty(TWO + "r0", 1, 12);
        faulty(TWO + "r0 1", 1, 14);
        faulty(TWO + "r0 1 0", 1, 16);
    }

    static void t1_theEndBehindBlanksIsTheTextsLength() {
        faulty("a   ", 1, 4);
        faulty("a1   ", 1, 5);
        faulty("a1 2  ", 1, 6);
        faulty(TWO + "r0 1 0  ", 1, 18);
    }

    static void t1_theFirstOfSeveralFaults() {
        faulty("a256 256;", 2, 1);
        faulty("a256?", 2, 1);
        faulty("a1 1?", 4, 3);
        faulty("x256 1;", 1, 0);
        faulty("a1 2;x;a256 0;", 1, 5);
        faulty("a3 1;x", 4, 3);
        faulty(TWO + "r2 2 9?", 2, 11);
        faulty(TWO + "r0 1 1?", 4, 15);
    }

    static void t1_aClauseBehindAStepIsWrongByWhereItStandsThoughTenAreThere() {
        faulty(times(5, TWO) + STEP + "a1 0;", 1, 57);
        faulty(times(5, TWO) + STEP + "b1 0;", 1, 57);
    }

    static void t1_aClauseBehindThirtySteps() {
        faulty(TWO + times(30, STEP) + "a1 0;", 1, 220);
    }

    static void t1_anNTooLargeThatHasALetterOfP() {
        faulty("a255 256;", 2, 5);
        faulty("a1 257;", 2, 3);
        faulty("a1 0001;", 2, 3);
    }

    static void t1_aVTooLargeOfAStepThatCannotBe() {
        faulty("a1 0;b2 0;r0 1 8;", 2, 15);
    }

    static void t1_nHasOneLetterOfP() {
        faulty("a1 1;", 4, 3);
        faulty("b128 255;", 4, 5);
        faulty("a0 1;b192 64;", 4, 10);
    }

    static void t1_nHasAllLettersOfP() {
        faulty("a255 255;", 4, 5);
    }

    static void t1_nHasAllLettersButThoseOfP() {
        good("a170 85;", 1);
    }

    static void t1_nIsWrongAtItsFirstFigureBehindBlanks() {
        faulty("a3   003;", 4, 5);
    }

    static void t1_aStepWhoseIHasNotV() {
        faulty("a2 0;b0 1;r0 1 0;", 4, 15);
    }

    static void t1_aStepWhoseJHasNotV() {
        faulty("a1 0;b0 2;r0 1 0;", 4, 15);
    }

    static void t1_aStepTheWrongWayRound() {
        faulty(TWO + "r1 0 0;", 4, 15);
    }

    static void t1_aStepOfOneTwice() {
        faulty(TWO + "r0 0 0;", 4, 15);
        faulty(TWO + "r1 1 0;", 4, 15);
    }

    static void t1_aStepWithALetterBothWays() {
        faulty("a3 0;b0 3;r0 1 0;", 4, 15);
        faulty("a1 2;b2 1;r0 1 0;", 4, 15);
        faulty("a129 0;b0 129;r0 1 7;", 4, 19);
    }

    static void t1_aStepThatCannotBeIsWrongAtItsVBehindBlanks() {
        faulty(TWO + "r0 1   001;", 4, 17);
    }

    static void t1_aStepHasAllThatEitherHasButV() {
        of("a7 8;b6 41;r0 1 0;");
        is(6, "step", 2, 0);
        is(40, "step", 2, 1);
    }

    static void t1_emptyIsAStepWithoutLetters() {
        of("a2 0;a1 0;b0 1;r1 2 0;");
        is(3, "told", 2);
    }

    static void t1_aClauseWithoutLettersIsEmpty() {
        of("a2 0;b0 0;a0 0;");
        is(1, "told", 2);
    }

    static void t1_aStepThatHasLettersOnlyInNIsNotEmpty() {
        of("b0 1;b0 128;");
        is(NONE, "told", 2);
    }

    // ---- Terms, part 2: COLOURS, SENTENCES, LEAST, SOUGHT

    static void t2_byAAClauseOfAWithoutSharedLettersIsNeverSo() {
        of("a1 2;b4 0;");
        sentenceIsAll(0, 0, 0);
    }

    static void t2_byAAnEmptyClauseOfAIsNeverSo() {
        of("a0 0;a1 0;b1 0;");
        sentenceIsAll(0, 0, 0);
    }

    static void t2_byAAClauseOfASaysOneOfItsSharedLetters() {
        // letter 2 is A's alone
        of("a5 2;b3 0;");
        sentenceIs(0, 0, 1, 1, 0, 1, 1, 1, 0, 1);
    }

    static void t2_byAAClauseOfBIsAlwaysSo() {
        of("a1 0;b1 0;b0 0;");
        sentenceIsAll(1, 0, 1);
        sentenceIsAll(1, 0, 2);
    }

    static void t2_byAAStepByALetterOfAAloneIsEither() {
        of("a3 0;a4 1;b0 6;r0 1 0;");
        sentenceIs(0, 3, 0, 0, 1, 1, 1, 1, 1, 1);
    }

    static void t2_byAAStepByASharedLetterIsBoth() {
        of("a3 0;a4 1;b1 6;r0 1 0;");
        sentenceIs(0, 3, 0, 0, 1, 0, 0, 1, 1, 1);
    }

    static void t2_byAAStepByALetterOfBAloneIsBoth() {
        of("a1 0;b2 1;b0 2;r0 1 0;r3 2 1;");
        sentenceIs(0, 4, 0, 1, 0, 1);
    }

    static void t2_byNeitherClausesAreNeverAndAlwaysSo() {
        of("a1 2;b1 2;a0 0;b0 0;");
        sentenceIsAll(0, 1, 0);
        sentenceIsAll(1, 1, 1);
        sentenceIsAll(0, 1, 2);
        sentenceIsAll(1, 1, 3);
    }

    static void t2_byNeitherAStepByALetterOfAAloneIsEither() {
        of("a3 0;b0 1;a4 2;r0 1 0;r3 2 1;");
        sentenceIs(1, 4, 0, 1, 0, 1);
    }

    static void t2_byNeitherAStepByALetterOfBAloneIsBoth() {
        of("a1 0;b2 1;b0 2;r0 1 0;r3 2 1;");
        sentenceIs(1, 4, 0, 1, 0, 1);
    }

    static void t2_byNeitherAStepByASharedLetterIsThatOfJWhereItIsSo() {
        of("a1 0;b0 1;r0 1 0;");
        sentenceIs(1, 2, 0, 1, 0, 1);
    }

    static void t2_byNeitherAStepByASharedLetterIsThatOfIWhereItIsNot() {
        of("b1 0;a0 1;r0 1 0;");
        sentenceIs(1, 2, 1, 0, 1, 0);
    }

    static void t2_byBAClauseOfAIsNeverSo() {
        of("a1 0;b1 0;a0 0;");
        sentenceIsAll(0, 2, 0);
        sentenceIsAll(0, 2, 2);
    }

    static void t2_byBAClauseOfBWithoutSharedLettersIsAlwaysSo() {
        of("b1 2;a4 0;");
        sentenceIsAll(1, 2, 0);
    }

    static void t2_byBAnEmptyClauseOfBIsAlwaysSo() {
        of("b0 0;a1 0;b1 0;");
        sentenceIsAll(1, 2, 0);
    }

    static void t2_byBAClauseOfBSaysAllItsSharedLettersAreOther() {
        // letter 2 is B's alone
        of("b5 2;a3 0;");
        sentenceIs(2, 0, 0, 0, 1, 0, 0, 0, 1, 0);
    }

    static void t2_byBAStepByALetterOfBAloneIsBoth() {
        of("b3 0;b4 1;a0 6;r0 1 0;");
        sentenceIs(2, 3, 1, 1, 0, 0, 0, 0, 0, 0);
    }

    static void t2_byBAStepByASharedLetterIsEither() {
        of("b3 0;b4 1;a1 6;r0 1 0;");
        sentenceIs(2, 3, 1, 1, 0, 1, 1, 0, 0, 0);
    }

    static void t2_byBAStepByALetterOfAAloneIsEither() {
        of("b1 0;a2 1;a0 2;r0 1 0;r3 2 1;");
        sentenceIs(2, 4, 1, 0, 1, 0);
    }

    static void t2_whatIsAlwaysSoSpeaksOfNothing() {
        of("a1 0;b1 0;");
        aboutIs(0, 1, 256, 0, 0);
    }

    static void t2_whatIsNeverSoSpeaksOfNothing() {
        of("a1 0;b1 0;");
        aboutIs(1, 0, 0, 0, 0);
    }

    static void t2_itSpeaksOfALetterUponWhichItHangsInOneWorldAlone() {
        of("a255 0;b255 0;");
        is(255, "about", 0, 0, 1);
        is(255, "about", 2, 1, 1);
    }

    static void t2_itSpeaksNotOfALetterThatOnlyItsClausesHave() {
        // 0 or 1, and 1 or not 0: that is 1
        of("a3 0;a2 1;b2 1;r0 1 0;");
        aboutIs(0, 3, 128, 2, 1);
    }

    static void t2_partsOfEachLetterAlone() {
        for (int letter = 0; letter < 8; letter++) {
            int bit = 1 << letter;
            of("a" + bit + " 0;b0 " + bit + ";");
            aboutIs(0, 0, 128, bit, 1);
        }
    }

    static void t2_partsOfAllLetters() {
        of("a255 0;b255 0;");
        aboutIs(0, 0, 255, 255, 8);
        aboutIs(2, 1, 1, 255, 8);
    }

    static void t2_likePartsCountOnce() {
        // 0 is other than 1: itself, 1, not 1
        of("a3 0;a0 3;b2 1;b1 2;r0 2 0;r3 1 0;r4 5 1;");
        aboutIs(1, 6, 128, 3, 3);
    }

    static void t2_partsAreToldFromLetter0On() {
        // 0 or 3, and 1 or 4: itself; 1 or 4; 3, and 1 or 4; 4; 3; 3 and 4 (other rows of letters would make 4)
        of("a9 0;a18 0;b32 1;b0 34;b0 24;r0 2 0;r1 3 1;r5 6 5;");
        aboutIs(0, 7, 144, 27, 6);
    }

    static void t2_standsOnOfAClauseIsItself() {
        of(times(9, "a1 0;") + "b0 1;");
        is(1, "step", 0, 6);
        is(512, "step", 9, 6);
    }

    static void t2_standsOnHasTheTenthClause() {
        of("a1 0;" + times(8, "a2 0;") + "b0 1;" + "r0 9 0;");
        is(513, "step", 10, 6);
    }

    static void t2_standsOnGoesThroughStepsBetween() {
        of(REFUTED);
        is(3, "step", 4, 6);
        is(7, "step", 5, 6);
        is(15, "step", 6, 6);
    }

    static void t2_standsOnHasAClauseOnceThatComesTwice() {
        of("a3 0;b2 1;a0 2;r0 1 0;r3 2 1;r0 2 1;r5 1 0;r6 2 1;");
        is(7, "step", 4, 6);
        is(7, "step", 7, 6);
    }

    static void t2_leastOfNoClauses() {
        is(NONE, "told", 7);
    }

    static void t2_leastWhereAllHoldSomewhere() {
        of("a1 0;b0 2;");
        is(NONE, "told", 7);
    }

    static void t2_leastWhereOneWorldIsLeft() {
        of("a1 0;a2 0;a4 0;a8 0;b16 0;b32 0;b64 0;b128 0;");
        is(1, "told", 6);
        is(NONE, "told", 7);
    }

    static void t2_leastWhereTheLastWorldGoes() {
        of("a1 0;a2 0;a4 0;a8 0;b16 0;b32 0;b64 0;b128 0;b0 255;");
        is(0, "told", 6);
        is(511, "told", 7);
    }

    static void t2_leastIsOneEmptyClause() {
        of("a1 0;b0 1;" + times(7, "a2 0;") + "b0 0;");
        is(512, "told", 7);
    }

    static void t2_leastIsTheFirstClauseAlone() {
        of("a0 0;b1 0;b0 1;");
        is(1, "told", 7);
    }

    static void t2_leastIsTheLeastOfTwoEmptyClauses() {
        of("a1 0;b0 0;a0 0;");
        is(2, "told", 7);
    }

    static void t2_leastIsOfOnePartyAlone() {
        of("a1 0;b2 0;b0 2;");
        is(6, "told", 7);
    }

    static void t2_leastHasFewClausesRatherThanLowOnes() {
        of("a1 2;a2 0;b0 1;b8 0;b0 8;");
        is(24, "told", 7);
    }

    static void t2_leastOfLikeManyIsTheLeastNumber() {
        // 0 with 3 (9), 1 with 2 (6)
        of("a0 1;b8 0;b0 8;a1 0;");
        is(6, "told", 7);
    }

    static void t2_leastIsAllTen() {
        of("a1 0;a2 1;a4 2;a8 4;a16 8;b32 16;b192 32;b128 96;b64 160;b0 224;");
        is(1023, "told", 7);
    }

    static void t2_leastKnowsNothingOfMadeSteps() {
        of(REFUTED);
        is(15, "told", 7);
    }

    static void t2_soughtOfNoSteps() {
        is(0, "seek");
    }

    static void t2_soughtOfOneStep() {
        of("a1 2;");
        is(0, "seek");
    }

    static void t2_soughtWhereNoneCanBeMade() {
        of("a1 0;b1 0;");
        is(0, "seek");
    }

    static void t2_soughtOfIAndJ() {
        of(TWO);
        is(1, "seek");
        is(0, "step", 2, 3);
        is(1, "step", 2, 4);
    }

    static void t2_soughtOfJAndI() {
        of("b0 1;a1 0;");
        is(1, "seek");
        is(1, "step", 2, 3);
        is(0, "step", 2, 4);
    }

    static void t2_soughtEndsWithAnEmptyOne() {
        of(TWO + "a2 4;b4 0;");
        is(1, "seek");
        is(4, "told", 2);
        is(5, "told", 1);
    }

    static void t2_soughtMakesNoneBehindAnEmptyStep() {
        of(TWO + "a2 4;b4 0;");
        is(4, "resolve", 0, 1, 0);
        is(0, "seek");
    }

    static void t2_soughtMakesNoneBehindAnEmptyClause() {
        of("a1 0;b0 1;a0 0;");
        is(0, "seek");
    }

    static void t2_soughtMakesNoneThatHasTheSameLetters() {
        // 0 with 1 by 1 would be clause 2
        of("a1 2;a2 0;a1 0;");
        is(0, "seek");
    }

    static void t2_soughtMakesNoneWhereOneHasFewerLetters() {
        // 0 with 1 by 1 would have 0 and 2; clause 2 has 0
        of("a1 2;a6 0;a1 0;");
        is(0, "seek");
    }

    static void t2_soughtMakesNoneThatTheFirstOrLastStepCovers() {
        of("a1 0;a1 2;a2 0;");
        is(0, "seek");
        of("a1 2;a2 0;b4 0;a1 0;");
        is(0, "seek");
    }

    static void t2_soughtKnowsNothingOfEarlierTexts() {
        of(TWO + "a2 0;b0 2;");
        is(0, "parties");
        for (int n = 1; n <= 2; n++) {
            feedAll("a1 0;");
            is(1, "parties");
            is(0, "seek");
        }
    }

    static void t2_soughtKnowsNothingOfUndoneSteps() {
        of("a1 2;a2 0;b4 0;");
        is(3, "resolve", 1, 0, 1);
        is(0, "undo");
        is(1, "seek");
        is(1, "step", 3, 0);
    }

    static void t2_soughtMakesOneWhereAnotherHasMoreLetters() {
        of("a1 2;a2 0;a5 0;");
        is(1, "seek");
        is(1, "step", 3, 0);
    }

    static void t2_soughtMakesOneWhereAnotherHasItsLettersTheOtherWay() {
        of("a1 2;a2 0;b0 1;");
        is(3, "seek");
        is(1, "step", 3, 0);
        is(2, "step", 4, 1);
        is(5, "told", 2);
    }

    static void t2_soughtLooksAtStepsJustMade() {
        of("a1 0;b2 1;b4 2;");
        // 1 with 0 by 0 (2); 1 with 2 by 1 (4 or not 0); 2 with 3 by 1 (4)
        is(3, "seek");
        is(3, "step", 5, 3);
        is(2, "step", 5, 4);
        is(4, "step", 5, 0);
    }

    static void t2_soughtEndsWithThirty() {
        of(ENDLESS);
        is(30, "seek");
        is(40, "told", 1);
        is(NONE, "told", 2);
    }

    static void t2_soughtCountsTheTextsStepsAmongThirty() {
        of("a1 0;b2 1;b4 2;" + times(29, "r0 1 0;"));
        is(1, "seek");
        is(33, "told", 1);
    }

    static void t2_soughtMakesNoneBehindThirty() {
        of("a1 0;b2 1;b4 2;" + times(30, "r0 1 0;"));
        is(0, "seek");
    }

    static void t2_soughtMakesAnEmptyOneAsTheThirtieth() {
        of("a1 0;b0 1;a2 0;b0 2;a3 0;b2 1;" + times(29, "r4 5 0;"));
        is(1, "seek");
        is(35, "told", 2);
    }

    static void t2_soughtAgainMakesNone() {
        of(SMALL);
        is(6, "seek");
        is(0, "seek");
    }

    // ---- Terms, part 3: SUMS, WEIGHTS, UNDONE

    static void t3_noSumsAreNotRefuted() {
        is(0, "sums", 0);
    }

    static void t3_refutedByTheGreatestKBelow0() {
        is(0, "sum", 0, 0, 0, 0, 0, -1);
        is(0, "weigh", 0, 1);
        is(1, "sums", 0);
    }

    static void t3_notRefutedByK0() {
        is(0, "sum", 0, 0, 0, 0, 0, 0);
        is(0, "weigh", 0, 1);
        is(0, "sums", 0);
    }

    static void t3_notRefutedByWeight0() {
        is(0, "sum", 0, 0, 0, 0, 0, -99);
        is(0, "sums", 0);
    }

    static void t3_notRefutedByOneNumberLeft() {
        for (int unknown = 0; unknown < 4; unknown++) {
            fresh();
            int[] n = new int[4];
            n[unknown] = unknown % 2 == 0 ? 1 : -1;
            is(0, "sum", 0, n[0], n[1], n[2], n[3], -99);
            is(0, "weigh", 0, 20);
            is(0, "sums", 0);
        }
    }

    static void t3_middleWithoutSumsOfA() {
        is(0, "sum", 1, 1, 2, 3, 4, -5);
        is(0, "weigh", 0, 20);
        for (int what = 0; what <= 4; what++) {
            is(0, "weighed", 1, what);
        }
        is(0, "sums", 2);
        is(1, "sums", 3);
    }

    static void t3_anUnknownOfNobodyIsFree() {
        is(15, "sums", 1);
        is(0, "sum", 0, 0, 0, 0, 0, 9);
        is(1, "sum", 1, 0, 0, 0, 0, 9);
        is(15, "sums", 1);
    }

    static void t3_anUnknownOfOnePartyIsNotFree() {
        is(0, "sum", 0, 1, 0, 0, 0, 0);
        is(14, "sums", 1);
        is(1, "sum", 1, 0, 0, 0, -1, 0);
        is(6, "sums", 1);
        is(2, "sum", 0, -9, 0, 0, 0, 0);
        is(6, "sums", 1);
    }

    static void t3_anUnknownOfBothIsFree() {
        is(0, "sum", 0, 1, 1, 1, 1, 0);
        is(0, "sums", 1);
        is(1, "sum", 1, -9, 9, 1, -1, 0);
        is(15, "sums", 1);
    }

    static void t3_freeKnowsNothingOfWeights() {
        is(0, "sum", 0, 1, 0, 0, 0, 0);
        is(1, "sum", 1, 1, 1, 0, 0, 0);
        is(13, "sums", 1);
        is(0, "weigh", 1, 20);
        is(13, "sums", 1);
    }

    static void t3_weightsAreSoughtWith1AtMostFirst() {
        // 0, 3, 2 would have less of SUM 0, but needs 3 at most
        is(0, "sum", 0, 1, 0, 0, 0, 0);
        is(1, "sum", 0, 2, 0, 0, 0, 0);
        is(2, "sum", 1, -3, 0, 0, 0, -1);
        is(1, "seekWeights");
        weightsAre(1, 1, 1);
    }

    static void t3_weightsAreSoughtWithEachAtMostUpTo6() {
        for (int most = 1; most <= 6; most++) {
            twoSums(1, -most);
            is(most, "seekWeights");
            weightsAre(most, 1);
        }
    }

    static void t3_weightsOf7AreNotSought() {
        twoSums(1, -7);
        is(NONE, "seekWeights");
        weightsAre(0, 0);
    }

    static void t3_sum0HasTheLeastWeightOfAllThatRefute() {
        is(0, "sum", 0, 0, 0, 0, 0, -1);
        is(1, "sum", 1, 0, 0, 0, 0, -1);
        is(1, "seekWeights");
        weightsAre(0, 1);
    }

    static void t3_thenSum1HasTheLeast() {
        is(0, "sum", 0, 1, 0, 0, 0, -1);
        is(1, "sum", 0, -1, 0, 0, 0, 0);
        is(2, "sum", 1, -1, 0, 0, 0, 0);
        is(1, "seekWeights");
        weightsAre(1, 0, 1);
    }

    static void t3_undoneIsOneResolve() {
        of(TWO);
        again(2, 2, "resolve", 0, 1, 0);
        is(1, "undo");
        is(3, "told", 1);
    }

    static void t3_undoneIsAllOfASeek() {
        of(SMALL);
        is(6, "seek");
        is(1, "told", 10);
        is(0, "undo");
        is(4, "told", 1);
    }

    static void t3_undoneAreThirtyStepsOfASeek() {
        of(ENDLESS);
        is(30, "seek");
        is(0, "undo");
        is(10, "told", 1);
        is(30, "seek");
    }

    static void t3_eightCanBeUndone() {
        of(TWO);
        again(8, 2, "resolve", 0, 1, 0);
        is(8, "told", 10);
        for (int left = 7; left >= 0; left--) {
            is(left, "undo");
            is(2 + left, "told", 1);
        }
        is(NOT, "undo");
    }

    static void t3_theNinthIsKnownAndTheFirstNoMore() {
        of(TWO);
        again(9, 2, "resolve", 0, 1, 0);
        is(8, "told", 10);
        for (int left = 7; left >= 0; left--) {
            is(left, "undo");
            is(3 + left, "told", 1);
        }
        is(NOT, "undo");
    }

    static void t3_ofThirtyTheLatestEightAreKnown() {
        of(TWO);
        again(30, 2, "resolve", 0, 1, 0);
        for (int left = 7; left >= 0; left--) {
            is(left, "undo");
            is(24 + left, "told", 1);
        }
        is(NOT, "undo");
    }

    static void t3_aSeekIsOneOfEight() {
        of(SMALL);
        again(8, 4, "resolve", 0, 2, 0);
        // 0; not 0; 2; not 1; EMPTY
        is(5, "seek");
        is(8, "told", 10);
        is(7, "undo");
        is(12, "told", 1);
    }

    // ---- Promise 1

    static void p01_noSteps() {
        is(0, "told", 0);
        is(0, "told", 1);
        is(NONE, "told", 2);
        is(UNKNOWN, "step", 0, 0);
    }

    static void p01_noSums() {
        is(0, "told", 9);
        is(UNKNOWN, "weigh", 0, 0);
        is(0, "clear");
    }

    static void p01_noTextNoFault() {
        is(0, "told", 8);
        is(NONE, "fault");
    }

    static void p01_nothingToUndoNoImages() {
        is(0, "told", 10);
        is(NOT, "undo");
        is(NOT, "goBack", 0);
        is(NOT, "goBack", 1);
    }

    static void p01_noLetterHasAColourAndAllWorldsAreLeft() {
        for (int letter = 0; letter <= 7; letter++) {
            is(NONE, "colour", letter);
        }
        is(0, "told", 3);
        is(256, "told", 4);
        is(256, "told", 5);
        is(256, "told", 6);
    }

    // ---- Promise 2

    static void p02_theLeastAndGreatestLetter() {
        is(1, "feed", 0);
        is(2, "feed", 255);
    }

    static void p02_tooSmall() {
        is(OUTSIDE, "feed", -1);
        is(OUTSIDE, "feed", MIN);
        is(0, "told", 8);
    }

    static void p02_tooLarge() {
        is(OUTSIDE, "feed", 256);
        is(OUTSIDE, "feed", MAX);
        is(0, "told", 8);
    }

    static void p02_aLetterIsNotTakenByItsLowBits() {
        is(OUTSIDE, "feed", 256 + 97);
        is(OUTSIDE, "feed", 65536 + 97);
    }

    static void p02_the240th() {
        again(240, 1, "feed", 97);
        is(240, "told", 8);
    }

    static void p02_the241stIsFull() {
        again(240, 1, "feed", 97);
        is(FULL, "feed", 97);
        is(FULL, "feed", 0);
        is(FULL, "feed", 255);
        is(240, "told", 8);
    }

    static void p02_behindPartiesItCountsFrom1() {
        again(240, 1, "feed", 32);
        is(0, "parties");
        is(1, "feed", 97);
    }

    // ---- Promise 3

    static void p03_anEmptyTextTakesAllStepsAway() {
        of(REFUTED);
        is(0, "parties");
        is(0, "told", 0);
        is(0, "told", 1);
        is(NONE, "told", 2);
        is(0, "told", 3);
        is(NONE, "colour", 0);
        is(256, "told", 6);
    }

    static void p03_fewerStepsThanAhead() {
        of(REFUTED);
        feedAll("b8 0;");
        is(1, "parties");
        is(1, "told", 1);
        is(UNKNOWN, "step", 1, 0);
        is(1, "colour", 3);
        is(NONE, "colour", 0);
        is(NONE, "told", 2);
    }

    static void p03_theTextIsEmptyThen() {
        feedAll("a1 0;");
        is(1, "parties");
        is(0, "told", 8);
        is(0, "parties");
    }

    static void p03_theTextIsEmptyWithAFaultToo() {
        feedAll("a1 0;x");
        is(-11, "parties");
        is(0, "told", 8);
        feedAll("b1 0;");
        is(1, "parties");
        is(1, "step", 0, 2);
    }

    static void p03_imagesAreGone() {
        of(TWO);
        is(2, "keep", 0);
        is(2, "keep", 1);
        is(0, "parties");
        is(NOT, "goBack", 0);
        is(NOT, "goBack", 1);
    }

    static void p03_whatCouldBeUndoneIsGone() {
        of(TWO);
        again(8, 2, "resolve", 0, 1, 0);
        feedAll(TWO);
        is(2, "parties");
        is(0, "told", 10);
        is(NOT, "undo");
    }

    static void p03_sumsStay() {
        is(0, "sum", 0, 1, 2, 3, 4, 5);
        is(0, "weigh", 0, 20);
        feedAll(TWO);
        is(2, "parties");
        is(1, "told", 9);
        is(20, "weigh", 0, 20);
        is(100, "weighed", 0, 4);
    }

    static void p03_eachFaultHasItsAnswer() {
        faulty("?", 1, 0);
        faulty("a256 0;", 2, 1);
        faulty(times(11, "a1 0;"), 3, 50);
        faulty("a1 1;", 4, 3);
    }

    static void p03_withAFaultStepsAreAsTheyWere() {
        of(SMALL);
        is(4, "resolve", 1, 0, 1);
        is(0, "sum", 0, 1, 2, 3, 4, 5);
        List<Integer> ahead = all();
        feedAll("b255 0;b255 0;a0 0;r0 1 0;");
        is(-14, "parties");
        is(24, "fault");
        feedAll("a1 0;");
        List<Integer> behind = all();
        // letters of THE TEXT and the FAULT are other
        ahead.set(8, 5);
        ahead.set(11, 24);
        expect(ahead.equals(behind), "something changed: " + ahead + " to " + behind);
        is(2, "colour", 0);
        is(NONE, "colour", 7);
    }

    static void p03_withAFaultImagesStay() {
        of(TWO);
        is(2, "keep", 1);
        is(2, "resolve", 0, 1, 0);
        feedAll("x");
        is(-11, "parties");
        is(2, "goBack", 1);
        is(NOT, "goBack", 0);
    }

    static void p03_withAFaultWhatCouldBeUndoneStays() {
        of(TWO);
        again(2, 2, "resolve", 0, 1, 0);
        feedAll("a1 0;b0 1;r0 1 0;x");
        is(-11, "parties");
        is(2, "told", 10);
        is(1, "undo");
        is(3, "told", 1);
    }

    // ---- Promise 4

    static void p04_aheadOfAllParties() {
        is(NONE, "fault");
        is(1, "feed", '?');
        is(NONE, "fault");
    }

    static void p04_theFirstLetter() {
        faulty("?", 1, 0);
    }

    static void p04_theLastLetter() {
        faulty("a1 0;" + times(234, " ") + "?", 1, 239);
    }

    static void p04_theTextsLength() {
        faulty(times(239, " ") + "a", 1, 240);
    }

    static void p04_ofTheLatestPartiesAlone() {
        feedAll("   ?");
        is(-11, "parties");
        feedAll(" ?");
        is(3, "fault");
        is(-11, "parties");
        is(1, "fault");
    }

    static void p04_noneBehindAGoodText() {
        feedAll("?");
        is(-11, "parties");
        feedAll("a1 0;");
        is(1, "parties");
        is(NONE, "fault");
    }

    static void p04_noneBehindAnEmptyText() {
        feedAll(" ?");
        is(-11, "parties");
        is(0, "parties");
        is(NONE, "fault");
    }

    static void p04_otherCallsChangeItNot() {
        of(TWO);
        feedAll(" ?");
        is(-11, "parties");
        is(2, "resolve", 0, 1, 0);
        is(0, "undo");
        is(2, "keep", 0);
        is(2, "goBack", 0);
        is(0, "clear");
        is(1, "fault");
    }

    // ---- Promise 5

    static void p05_tooSmall() {
        is(OUTSIDE, "told", -1);
        is(OUTSIDE, "told", MIN);
    }

    static void p05_tooLarge() {
        is(OUTSIDE, "told", 11);
        is(OUTSIDE, "told", MAX);
    }

    static void p05_mostClauses() {
        of(times(5, TWO));
        is(10, "told", 0);
        is(10, "told", 1);
    }

    static void p05_mostSteps() {
        of(times(5, TWO) + times(27, STEP));
        is(37, "told", 1);
        again(3, 37, "resolve", 0, 1, 0);
        is(10, "told", 0);
        is(40, "told", 1);
        is(FULL, "resolve", 0, 1, 0);
    }

    static void p05_theFirstOfSeveralEmptySteps() {
        of(TWO + times(3, STEP));
        is(2, "told", 2);
    }

    static void p05_theFirstEmptyStepIsTheLastOf40() {
        of("a1 0;b0 1;" + times(8, "a3 0;") + times(27, "r2 1 0;"));
        again(2, 37, "resolve", 2, 1, 0);
        is(NONE, "told", 2);
        is(39, "resolve", 0, 1, 0);
        is(39, "told", 2);
    }

    static void p05_noSharedLettersOfOneParty() {
        of("a255 0;a0 255;");
        is(0, "told", 3);
    }

    static void p05_allLettersShared() {
        of("a255 0;b0 255;");
        is(255, "told", 3);
    }

    static void p05_aLetterIsSharedThoughBothHaveItAlike() {
        of("a4 0;b4 0;");
        is(4, "told", 3);
    }

    static void p05_allWorldsWithoutClausesOfAParty() {
        of("a1 0;");
        is(128, "told", 4);
        is(256, "told", 5);
        is(128, "told", 6);
        of("b1 0;");
        is(256, "told", 4);
        is(128, "told", 5);
    }

    static void p05_noWorlds() {
        of("a0 0;b1 0;b0 1;");
        is(0, "told", 4);
        is(0, "told", 5);
        is(0, "told", 6);
    }

    static void p05_worldsAreOfClausesAlone() {
        of(TWO + STEP);
        is(128, "told", 4);
        is(128, "told", 5);
    }

    static void p05_lettersOfTheText() {
        is(0, "told", 8);
        again(240, 1, "feed", 32);
        is(240, "told", 8);
    }

    static void p05_sums() {
        is(0, "told", 9);
        sums(8);
        is(8, "told", 9);
    }

    static void p05_howManyCanBeUndone() {
        of(TWO);
        is(0, "told", 10);
        again(8, 2, "resolve", 0, 1, 0);
        is(8, "told", 10);
        is(10, "resolve", 0, 1, 0);
        is(8, "told", 10);
    }

    // ---- Promise 6

    static void p06_tooSmall() {
        is(UNKNOWN, "colour", -1);
        is(UNKNOWN, "colour", MIN);
    }

    static void p06_tooLarge() {
        of("a255 0;");
        is(UNKNOWN, "colour", 8);
        is(UNKNOWN, "colour", 32);
        is(UNKNOWN, "colour", MAX);
    }

    static void p06_eachColourOfTheLeastLetter() {
        of("a2 0;b2 0;");
        is(NONE, "colour", 0);
        of("a1 0;b2 0;");
        is(0, "colour", 0);
        of("a2 0;b0 1;");
        is(1, "colour", 0);
        of("a1 0;b0 1;");
        is(2, "colour", 0);
    }

    static void p06_eachColourOfTheGreatestLetter() {
        of("a2 0;b2 0;");
        is(NONE, "colour", 7);
        of("a0 128;b2 0;");
        is(0, "colour", 7);
        of("a2 0;b128 0;");
        is(1, "colour", 7);
        of("a0 128;b128 0;");
        is(2, "colour", 7);
    }

    static void p06_ofTheLatestTextAlone() {
        of("a255 0;b255 0;");
        for (int n = 1; n <= 2; n++) {
            feedAll("a1 0;b2 0;");
            is(2, "parties");
            is(0, "colour", 0);
            is(1, "colour", 1);
            is(NONE, "colour", 2);
            is(0, "told", 3);
        }
    }

    static void p06_byClausesNotBySteps() {
        // the step has letters of both, and no clause of A has 1
        of("a1 0;b2 1;r0 1 0;");
        is(1, "colour", 1);
    }

    // ---- Promise 7

    static void p07_aStepTooSmall() {
        of(TWO);
        is(UNKNOWN, "step", -1, 0);
        is(UNKNOWN, "step", MIN, 0);
    }

    static void p07_aStepTooLarge() {
        of(TWO);
        is(UNKNOWN, "step", 2, 0);
        is(UNKNOWN, "step", MAX, 0);
        // times eight, this would be 0
        is(UNKNOWN, "step", 1 << 29, 0);
    }

    static void p07_whatTooSmall() {
        of(TWO);
        is(OUTSIDE, "step", 0, -1);
        is(OUTSIDE, "step", 1, -1);
        is(OUTSIDE, "step", 1, MIN);
    }

    static void p07_whatTooLarge() {
        of(TWO);
        is(OUTSIDE, "step", 0, 8);
        is(OUTSIDE, "step", 1, MAX);
    }

    static void p07_aClauseHasNoIJLetter() {
        of("b1 0;");
        is(1, "step", 0, 2);
        is(NONE, "step", 0, 3);
        is(NONE, "step", 0, 4);
        is(NONE, "step", 0, 5);
    }

    static void p07_aMadeStepHasNoParty() {
        of("a1 0;a0 1;r0 1 0;");
        is(NONE, "step", 2, 2);
        is(0, "step", 2, 3);
        is(1, "step", 2, 4);
        is(0, "step", 2, 5);
    }

    static void p07_theRowOfAClauseIs1() {
        of(TWO + STEP);
        is(1, "step", 0, 7);
        is(1, "step", 1, 7);
        is(2, "step", 2, 7);
    }

    static void p07_theLongerRowIsThatOfI() {
        of("a1 0;b2 1;b4 2;r1 2 1;r0 1 0;r4 2 1;");
        is(3, "step", 5, 7);
    }

    static void p07_theLongerRowIsThatOfJ() {
        of("a1 0;b2 1;b4 2;r1 2 1;r0 3 0;");
        is(3, "step", 4, 7);
    }

    static void p07_theLongestRow() {
        // to and fro: 0, then not 0 or 1 gives 1, then 0 or not 1 gives 0 ..
        of("a1 0;b2 1;b1 2;");
        is(3, "resolve", 0, 1, 0);
        for (int s = 4; s < 33; s++) {
            int to = s % 2 == 0 ? 2 : 1;
            is(s, "resolve", s - 1, to, s % 2 == 0 ? 1 : 0);
        }
        is(31, "step", 32, 7);
    }

    static void p07_anUndoneStepIsUnknown() {
        of(TWO);
        is(2, "resolve", 0, 1, 0);
        is(0, "undo");
        is(UNKNOWN, "step", 2, 0);
    }

    // ---- Promise 8

    static void p08_aStepTooSmallOrTooLarge() {
        of(TWO);
        is(UNKNOWN, "holds", -1, 0);
        is(UNKNOWN, "holds", MIN, 0);
        is(UNKNOWN, "holds", 2, 0);
        is(UNKNOWN, "holds", MAX, 0);
    }

    static void p08_theLeastWorld() {
        of("a255 0;b0 128;");
        is(0, "holds", 0, 0);
        is(1, "holds", 1, 0);
        is(OUTSIDE, "holds", 0, -1);
        is(OUTSIDE, "holds", 0, MIN);
    }

    static void p08_theGreatestWorld() {
        of("a128 0;b0 255;");
        is(1, "holds", 0, 255);
        is(0, "holds", 1, 255);
        is(OUTSIDE, "holds", 0, 256);
        is(OUTSIDE, "holds", 0, MAX);
    }

    static void p08_anEmptyStep() {
        of(TWO + STEP);
        is(0, "holds", 2, 0);
        is(0, "holds", 2, 255);
    }

    static void p08_aMadeStep() {
        of("a7 8;b6 9;r0 1 0;");
        is(0, "holds", 2, 8);
        is(0, "holds", 2, 9);
        is(1, "holds", 2, 10);
        is(1, "holds", 2, 0);
    }

    // ---- Promise 9

    static void p09_anITooSmallOrTooLarge() {
        of(TWO);
        is(UNKNOWN, "resolve", -1, 1, 0);
        is(UNKNOWN, "resolve", MIN, 1, 0);
        is(UNKNOWN, "resolve", 2, 1, 0);
        is(UNKNOWN, "resolve", MAX, 1, 0);
    }

    static void p09_aJTooSmallOrTooLarge() {
        of(TWO);
        is(UNKNOWN, "resolve", 0, -1, 0);
        is(UNKNOWN, "resolve", 0, MIN, 0);
        is(UNKNOWN, "resolve", 0, 2, 0);
        is(UNKNOWN, "resolve", 0, MAX, 0);
    }

    static void p09_aLetterTooSmallOrTooLarge() {
        of(TWO);
        is(UNKNOWN, "resolve", 0, 1, -1);
        is(UNKNOWN, "resolve", 0, 1, MIN);
        is(UNKNOWN, "resolve", 0, 1, 8);
        // as a shift, 32 would be 0
        is(UNKNOWN, "resolve", 0, 1, 32);
        is(UNKNOWN, "resolve", 0, 1, MAX);
    }

    static void p09_theLeastAndGreatestLetter() {
        of("a1 0;b0 1;a128 0;b0 128;");
        is(4, "resolve", 0, 1, 0);
        is(5, "resolve", 2, 3, 7);
    }

    static void p09_noStepsAtAll() {
        is(UNKNOWN, "resolve", 0, 1, 0);
        is(UNKNOWN, "resolve", 0, 0, 0);
    }

    static void p09_oneTwice() {
        of(TWO);
        is(UNKNOWN, "resolve", 0, 0, 0);
    }

    static void p09_iHasItNot() {
        of("a2 0;b0 1;");
        is(NOT, "resolve", 0, 1, 0);
    }

    static void p09_jHasItNot() {
        of("a1 0;b0 2;");
        is(NOT, "resolve", 0, 1, 0);
    }

    static void p09_theWrongWayRound() {
        of(TWO);
        is(NOT, "resolve", 1, 0, 0);
    }

    static void p09_aLetterBothWays() {
        of("a129 0;b0 129;");
        is(NOT, "resolve", 0, 1, 0);
        is(NOT, "resolve", 0, 1, 7);
    }

    static void p09_anEmptyStepMeetsNothing() {
        of("a0 0;b0 1;a1 0;");
        is(NOT, "resolve", 0, 1, 0);
        is(NOT, "resolve", 2, 0, 0);
    }

    static void p09_theThirtiethAndThe31st() {
        of(TWO);
        again(30, 2, "resolve", 0, 1, 0);
        is(FULL, "resolve", 0, 1, 0);
        is(32, "told", 1);
    }

    static void p09_theTextsStepsCount() {
        of(TWO + times(29, STEP));
        is(31, "resolve", 0, 1, 0);
        is(FULL, "resolve", 0, 1, 0);
    }

    static void p09_clausesCountNot() {
        of(times(5, TWO));
        again(30, 10, "resolve", 0, 1, 0);
        is(FULL, "resolve", 0, 1, 0);
    }

    static void p09_behindUndoThereIsRoomAgain() {
        of(TWO + times(29, STEP));
        is(31, "resolve", 0, 1, 0);
        is(0, "undo");
        is(31, "resolve", 0, 1, 0);
    }

    static void p09_oneThatIsThereMayComeAgain() {
        of(TWO);
        again(2, 2, "resolve", 0, 1, 0);
    }

    // ---- Promise 10

    static void p10_noSteps() {
        is(0, "seek");
        is(0, "told", 1);
    }

    static void p10_noneComes() {
        of("a1 0;b2 0;");
        is(0, "seek");
        is(2, "told", 1);
        is(0, "told", 10);
    }

    static void p10_thirty() {
        of(ENDLESS);
        is(30, "seek");
        is(1, "told", 10);
    }

    static void p10_full() {
        of(TWO + "a2 0;b1 2;" + times(30, "r2 3 1;"));
        is(0, "seek");
        is(34, "told", 1);
        is(0, "told", 10);
    }

    static void p10_behindThirtyOfItsOwn() {
        of(ENDLESS);
        is(30, "seek");
        is(0, "seek");
        is(1, "told", 10);
    }

    static void p10_anEmptyOneIsMadeAndCounted() {
        of(TWO);
        is(1, "seek");
        is(2, "told", 2);
    }

    // ---- Promise 11

    static void p11_noneOfANewObject() {
        is(NOT, "undo");
    }

    static void p11_noneOfTheText() {
        of(TWO + STEP);
        is(NOT, "undo");
        is(3, "told", 1);
    }

    static void p11_noneBehindTheLast() {
        of(TWO);
        is(2, "resolve", 0, 1, 0);
        is(0, "undo");
        is(NOT, "undo");
        is(2, "told", 1);
    }

    static void p11_noneBehindASeekThatMadeNone() {
        of("a1 0;b2 0;");
        is(0, "seek");
        is(NOT, "undo");
    }

    static void p11_noneBehindARefusedResolve() {
        of(TWO);
        is(NOT, "resolve", 1, 0, 0);
        is(UNKNOWN, "resolve", 0, 0, 0);
        is(NOT, "undo");
    }

    static void p11_theLatestFirst() {
        of("a1 0;b2 1;b4 2;");
        is(3, "resolve", 0, 1, 0);
        is(4, "resolve", 3, 2, 1);
        is(1, "undo");
        is(2, "step", 3, 0);
        is(UNKNOWN, "step", 4, 0);
        is(0, "undo");
        is(UNKNOWN, "step", 3, 0);
    }

    static void p11_anEmptyStepIsThereNoMore() {
        of(TWO);
        is(1, "seek");
        is(2, "told", 2);
        is(0, "undo");
        is(NONE, "told", 2);
        is(NOT, "between", 0);
        is(NOT, "needless");
    }

    static void p11_newOnesCanBeUndoneBehindIt() {
        of(TWO);
        again(9, 2, "resolve", 0, 1, 0);
        is(7, "undo");
        is(10, "resolve", 0, 1, 0);
        is(8, "told", 10);
        is(11, "resolve", 0, 1, 0);
        is(8, "told", 10);
    }

    static void p11_sumsAndTextStay() {
        of(TWO);
        sums(2);
        feedAll("a1");
        is(2, "resolve", 0, 1, 0);
        is(0, "undo");
        is(2, "told", 8);
        is(2, "told", 9);
    }

    // ---- Promise 12

    static void p12_aStepTooSmallOrTooLarge() {
        of(TWO);
        is(UNKNOWN, "sentence", 0, -1, 0);
        is(UNKNOWN, "sentence", 0, MIN, 0);
        is(UNKNOWN, "sentence", 0, 2, 0);
        is(UNKNOWN, "sentence", 0, MAX, 0);
    }

    static void p12_noStepsAtAll() {
        is(UNKNOWN, "sentence", 0, 0, 0);
    }

    static void p12_aSystemTooSmallOrTooLarge() {
        of(TWO);
        is(OUTSIDE, "sentence", -1, 0, 0);
        is(OUTSIDE, "sentence", MIN, 0, 0);
        is(OUTSIDE, "sentence", 3, 0, 0);
        is(OUTSIDE, "sentence", MAX, 0, 0);
    }

    static void p12_aWorldTooSmallOrTooLarge() {
        of(TWO);
        is(OUTSIDE, "sentence", 0, 0, -1);
        is(OUTSIDE, "sentence", 0, 0, MIN);
        is(OUTSIDE, "sentence", 0, 0, 256);
        is(OUTSIDE, "sentence", 0, 0, MAX);
    }

    static void p12_theLeastAndGreatestWorld() {
        of("a1 128;b0 129;");
        is(1, "sentence", 0, 0, 0);
        is(1, "sentence", 0, 0, 255);
        is(0, "sentence", 0, 0, 128);
        is(0, "sentence", 2, 1, 0);
        is(1, "sentence", 2, 1, 255);
    }

    static void p12_worldsBesideEach64th() {
        // 6 or 7; 6 and 7
        of("a192 0;b0 192;");
        for (int world : new int[] {63, 64, 127, 128, 191, 192}) {
            is(world >= 64 ? 1 : 0, "sentence", 0, 0, world);
            is(world >= 192 ? 1 : 0, "sentence", 2, 1, world);
        }
    }

    static void p12_theLastOf40Steps() {
        of(times(5, TWO) + times(27, STEP));
        again(3, 37, "resolve", 0, 1, 0);
        for (int system = 0; system <= 2; system++) {
            is(0, "sentence", system, 39, 254);
            is(1, "sentence", system, 39, 255);
        }
        is(UNKNOWN, "sentence", 0, 40, 0);
    }

    // ---- Promise 13

    static void p13_aStepTooSmallOrTooLarge() {
        of(TWO);
        is(UNKNOWN, "about", 0, -1, 0);
        is(UNKNOWN, "about", 0, MIN, 0);
        is(UNKNOWN, "about", 0, 2, 0);
        is(UNKNOWN, "about", 0, MAX, 0);
    }

    static void p13_aSystemTooSmallOrTooLarge() {
        of(TWO);
        is(OUTSIDE, "about", -1, 0, 0);
        is(OUTSIDE, "about", MIN, 0, 0);
        is(OUTSIDE, "about", 3, 0, 0);
        is(OUTSIDE, "about", MAX, 0, 0);
    }

    static void p13_whatTooSmallOrTooLarge() {
        of(TWO);
        is(OUTSIDE, "about", 0, 0, -1);
        is(OUTSIDE, "about", 0, 0, MIN);
        is(OUTSIDE, "about", 0, 0, 3);
        is(OUTSIDE, "about", 0, 0, MAX);
    }

    static void p13_noWorldAndAllWorlds() {
        of(TWO);
        is(0, "about", 1, 0, 0);
        is(256, "about", 1, 1, 0);
    }

    static void p13_oneWorldAndAllButOne() {
        of("a255 0;b255 0;");
        is(255, "about", 0, 0, 0);
        is(1, "about", 2, 1, 0);
    }

    static void p13_noOtherStepIsCounted() {
        // both are read one way round, then the other
        of("a2 0;a1 0;b3 0;");
        for (int n = 1; n <= 2; n++) {
            aboutIs(0, 2, 256, 0, 0);
            aboutIs(0, 1, 128, 1, 1);
            aboutIs(0, 0, 128, 2, 1);
        }
    }

    static void p13_askedAgainItIsTheSame() {
        of("a9 0;a18 0;b32 1;b0 34;b0 24;r0 2 0;r1 3 1;r5 6 5;");
        for (int n = 1; n <= 3; n++) {
            aboutIs(0, 7, 144, 27, 6);
            aboutIs(0, 0, 192, 9, 2);
        }
    }

    // ---- Promise 14

    static void p14_aSystemTooSmallOrTooLarge() {
        of(TWO + STEP);
        is(OUTSIDE, "between", -1);
        is(OUTSIDE, "between", MIN);
        is(OUTSIDE, "between", 3);
        is(OUTSIDE, "between", MAX);
    }

    static void p14_noEmptyStep() {
        of(TWO);
        is(NOT, "between", 0);
        is(NOT, "between", 1);
        is(NOT, "between", 2);
    }

    static void p14_noStepsAtAll() {
        is(NOT, "between", 0);
    }

    private static void standsBetween() {
        for (int system = 0; system <= 2; system++) {
            is(7, "between", system);
        }
    }

    static void p14_anEmptyClauseOfA() {
        of("a0 0;b1 0;");
        standsBetween();
    }

    static void p14_anEmptyClauseOfB() {
        of("b0 0;a1 0;");
        standsBetween();
    }

    static void p14_oneEmptyClauseAlone() {
        of("a0 0;");
        standsBetween();
        of("b0 0;");
        standsBetween();
    }

    static void p14_aContradictsItself() {
        of("a1 0;a0 1;b2 0;r0 1 0;");
        standsBetween();
        sentenceIsAll(0, 0, 3);
    }

    static void p14_bContradictsItself() {
        of("b1 0;b0 1;a2 0;r0 1 0;");
        standsBetween();
        sentenceIsAll(1, 2, 3);
    }

    static void p14_bothContradictOneAnother() {
        of(REFUTED);
        standsBetween();
    }

    // ---- Promise 15

    static void p15_aStepTooSmallOrTooLarge() {
        of(TWO);
        is(UNKNOWN, "saysMore", -1, 0, 1);
        is(UNKNOWN, "saysMore", MIN, 0, 1);
        is(UNKNOWN, "saysMore", 2, 0, 1);
        is(UNKNOWN, "saysMore", MAX, 0, 1);
    }

    static void p15_aSystemTooSmallOrTooLarge() {
        of(TWO);
        is(OUTSIDE, "saysMore", 0, -1, 0);
        is(OUTSIDE, "saysMore", 0, MIN, 0);
        is(OUTSIDE, "saysMore", 0, 3, 0);
        is(OUTSIDE, "saysMore", 0, MAX, 0);
    }

    static void p15_anotherSystemTooSmallOrTooLarge() {
        of(TWO);
        is(OUTSIDE, "saysMore", 0, 0, -1);
        is(OUTSIDE, "saysMore", 0, 0, MIN);
        is(OUTSIDE, "saysMore", 0, 0, 3);
        is(OUTSIDE, "saysMore", 0, 0, MAX);
    }

    static void p15_oneSystemTwice() {
        of(TWO);
        for (int system = 0; system <= 2; system++) {
            is(1, "saysMore", 0, system, system);
            is(1, "saysMore", 1, system, system);
        }
    }

    static void p15_whatIsNeverSoSaysMoreThanAll() {
        of(TWO);
        is(1, "saysMore", 0, 1, 0);
        is(0, "saysMore", 0, 0, 1);
    }

    static void p15_whatIsAlwaysSoSaysLessThanAll() {
        of(TWO);
        is(1, "saysMore", 1, 2, 0);
        is(0, "saysMore", 1, 0, 2);
    }

    static void p15_oneWorldIsEnough() {
        of("a255 0;b255 0;");
        // by B, in one world alone; by neither, always
        is(1, "saysMore", 1, 2, 1);
        is(0, "saysMore", 1, 1, 2);
        of("a0 255;b0 255;");
        is(1, "saysMore", 1, 2, 1);
        is(0, "saysMore", 1, 1, 2);
    }

    static void p15_theyDifferInTheLowestWorldsAlone() {
        // 7 or not 6; 7
        of("b0 192;a128 64;r1 0 7;");
        is(0, "saysMore", 2, 0, 1);
        is(1, "saysMore", 2, 1, 0);
    }

    static void p15_theyDifferInTheHighestWorldsAlone() {
        // 6 or not 7; not 7
        of("b192 0;a64 128;r0 1 7;");
        is(0, "saysMore", 2, 0, 1);
        is(1, "saysMore", 2, 1, 0);
    }

    static void p15_noOtherStepIsLookedAt() {
        of("a1 0;b1 0;");
        is(0, "saysMore", 1, 0, 2);
        is(1, "saysMore", 0, 1, 2);
        is(1, "saysMore", 0, 2, 1);
        is(1, "saysMore", 0, 1, 0);
    }

    // ---- Promise 16

    static void p16_noEmptyStep() {
        of(TWO);
        is(NOT, "needless");
    }

    static void p16_noStepsAtAll() {
        is(NOT, "needless");
    }

    static void p16_theEmptyStepItselfIsNot() {
        of(TWO + STEP);
        is(0, "needless");
    }

    static void p16_clausesAreNot() {
        of(TWO + "a2 0;b4 0;" + STEP);
        is(0, "needless");
    }

    static void p16_stepsBehindTheFirstEmptyOneAre() {
        of(TWO + times(30, STEP));
        is(29, "needless");
    }

    static void p16_stepsAheadThatItWasNotMadeOf() {
        of("a3 0;b0 1;b0 2;r0 1 0;r0 2 1;r3 2 1;");
        is(1, "needless");
    }

    static void p16_stepsOfWhichBothItsHalvesWereMade() {
        of(SMALL + "r1 0 1;r2 3 2;r4 5 0;");
        is(0, "needless");
    }

    static void p16_oneThatComesTwiceIsNeededOnce() {
        // STEP 4 is a half of the EMPTY one, and its other half was made of it, too
        of("a1 0;b2 1;b4 2;b0 6;r0 1 0;r4 2 1;r5 3 2;r4 6 1;");
        is(7, "told", 2);
        is(0, "needless");
    }

    static void p16_allBehindAnEmptyClause() {
        of(TWO + "a0 0;" + times(30, STEP));
        is(30, "needless");
    }

    static void p16_anEmptyClauseAlone() {
        of("a0 0;");
        is(0, "needless");
    }

    // ---- Promise 17

    static void p17_theLeastAndGreatestNumbers() {
        is(0, "sum", 0, -9, -9, -9, -9, -99);
        is(1, "sum", 1, 9, 9, 9, 9, 99);
    }

    static void p17_aPartyTooSmallOrTooLarge() {
        is(OUTSIDE, "sum", -1, 0, 0, 0, 0, 0);
        is(OUTSIDE, "sum", MIN, 0, 0, 0, 0, 0);
        is(OUTSIDE, "sum", 2, 0, 0, 0, 0, 0);
        is(OUTSIDE, "sum", MAX, 0, 0, 0, 0, 0);
        is(0, "told", 9);
    }

    private static void sumWith(int place, int number) {
        int[] n = new int[6];
        n[place] = number;
        is(OUTSIDE, "sum", n);
    }

    static void p17_aNumberTooSmall() {
        for (int place = 1; place <= 4; place++) {
            sumWith(place, -10);
            sumWith(place, MIN);
        }
        is(0, "told", 9);
    }

    static void p17_aNumberTooLarge() {
        for (int place = 1; place <= 4; place++) {
            sumWith(place, 10);
            sumWith(place, MAX);
        }
        is(0, "told", 9);
    }

    static void p17_aKTooSmall() {
        sumWith(5, -100);
        sumWith(5, MIN);
        is(0, "told", 9);
    }

    static void p17_aKTooLarge() {
        sumWith(5, 100);
        sumWith(5, MAX);
        is(0, "told", 9);
    }

    static void p17_theEighthAndTheNinth() {
        again(8, 0, "sum", 0, 1, 1, 1, 1, 1);
        is(FULL, "sum", 0, 1, 1, 1, 1, 1);
        is(8, "told", 9);
    }

    static void p17_itsWeightIs0AtFirst() {
        is(0, "sum", 0, 9, 9, 9, 9, 99);
        for (int what = 0; what <= 4; what++) {
            is(0, "weighed", 0, what);
        }
        is(0, "weigh", 0, 0);
    }

    // ---- Promise 18

    static void p18_aSumTooSmallOrTooLarge() {
        sums(2);
        is(UNKNOWN, "weigh", -1, 0);
        is(UNKNOWN, "weigh", MIN, 0);
        is(UNKNOWN, "weigh", 2, 0);
        is(UNKNOWN, "weigh", MAX, 0);
    }

    static void p18_noSums() {
        is(UNKNOWN, "weigh", 0, 0);
    }

    static void p18_theEighthSum() {
        sums(8);
        is(0, "weigh", 7, 20);
        is(20, "weigh", 7, 0);
        is(UNKNOWN, "weigh", 8, 0);
    }

    static void p18_aClearedSum() {
        sums(2);
        is(2, "clear");
        is(UNKNOWN, "weigh", 0, 1);
        is(UNKNOWN, "weigh", 1, 1);
    }

    static void p18_theLeastAndGreatestWeight() {
        sums(1);
        is(0, "weigh", 0, 20);
        is(20, "weigh", 0, 0);
        is(0, "weigh", 0, 0);
    }

    static void p18_aWeightTooSmallOrTooLarge() {
        sums(1);
        is(0, "weigh", 0, 5);
        is(OUTSIDE, "weigh", 0, -1);
        is(OUTSIDE, "weigh", 0, MIN);
        is(OUTSIDE, "weigh", 0, 21);
        is(OUTSIDE, "weigh", 0, MAX);
        is(5, "weigh", 0, 5);
    }

    // ---- Promise 19

    static void p19_ofTooSmallOrTooLarge() {
        is(OUTSIDE, "weighed", -1, 0);
        is(OUTSIDE, "weighed", MIN, 0);
        is(OUTSIDE, "weighed", 2, 0);
        is(OUTSIDE, "weighed", MAX, 0);
    }

    static void p19_whatTooSmallOrTooLarge() {
        is(OUTSIDE, "weighed", 0, -1);
        is(OUTSIDE, "weighed", 1, MIN);
        is(OUTSIDE, "weighed", 0, 5);
        is(OUTSIDE, "weighed", 1, MAX);
    }

    static void p19_noSums() {
        for (int what = 0; what <= 4; what++) {
            is(0, "weighed", 0, what);
            is(0, "weighed", 1, what);
        }
    }

    static void p19_theGreatest() {
        again(8, 0, "sum", 0, 9, 9, 9, 9, 99);
        for (int s = 0; s < 8; s++) {
            is(0, "weigh", s, 20);
        }
        for (int of = 0; of <= 1; of++) {
            is(1440, "weighed", of, 0);
            is(1440, "weighed", of, 3);
            is(15840, "weighed", of, 4);
        }
    }

    static void p19_theLeast() {
        again(8, 0, "sum", 1, -9, -9, -9, -9, -99);
        for (int s = 0; s < 8; s++) {
            is(0, "weigh", s, 20);
        }
        is(-1440, "weighed", 0, 0);
        is(-1440, "weighed", 0, 3);
        is(-15840, "weighed", 0, 4);
        is(0, "weighed", 1, 0);
        is(0, "weighed", 1, 4);
    }

    static void p19_middleIsOfAsSumsAlone() {
        is(0, "sum", 0, 1, 2, 3, 4, 5);
        is(1, "sum", 1, 5, 5, 5, 5, 5);
        is(0, "weigh", 0, 2);
        is(0, "weigh", 1, 3);
        for (int what = 0; what <= 4; what++) {
            is(2 * (what + 1) + 15, "weighed", 0, what);
            is(2 * (what + 1), "weighed", 1, what);
        }
    }

    // ---- Promise 20

    static void p20_whatTooSmallOrTooLarge() {
        is(OUTSIDE, "sums", -1);
        is(OUTSIDE, "sums", MIN);
        is(OUTSIDE, "sums", 4);
        is(OUTSIDE, "sums", MAX);
    }

    static void p20_noSums() {
        is(0, "sums", 0);
        is(15, "sums", 1);
        is(0, "sums", 2);
        is(1, "sums", 3);
    }

    static void p20_middleWithoutUnknowns() {
        is(0, "sum", 0, 0, 0, 0, 0, -1);
        is(0, "weigh", 0, 1);
        is(0, "sums", 2);
        is(1, "sums", 3);
    }

    static void p20_middleWhoseUnknownsCancel() {
        is(0, "sum", 0, 1, 0, 0, 2, 0);
        is(1, "sum", 0, -1, 0, 0, -2, 0);
        is(0, "weigh", 0, 3);
        is(9, "sums", 2);
        is(0, "sums", 3);
        is(0, "weigh", 1, 3);
        is(0, "sums", 2);
        is(1, "sums", 3);
    }

    static void p20_middleOfAllUnknowns() {
        is(0, "sum", 0, 1, -1, 1, -1, 0);
        is(0, "weigh", 0, 1);
        is(15, "sums", 2);
        is(0, "sums", 3);
        is(1, "sum", 1, 1, 1, 1, 0, 0);
        is(7, "sums", 1);
        is(0, "sums", 3);
        is(2, "sum", 1, 0, 0, 0, 1, 0);
        is(15, "sums", 1);
        is(1, "sums", 3);
    }

    static void p20_refutedIsGoneAsAWeightChanges() {
        twoSums(1, -1);
        is(0, "weigh", 0, 20);
        is(0, "weigh", 1, 20);
        is(1, "sums", 0);
        is(20, "weigh", 1, 19);
        is(0, "sums", 0);
    }

    // ---- Promise 21

    static void p21_noSums() {
        is(NOT, "seekWeights");
    }

    static void p21_noSumsBehindClear() {
        sums(1);
        is(1, "clear");
        is(NOT, "seekWeights");
    }

    static void p21_oneSum() {
        is(0, "sum", 0, 0, 0, 0, 0, -1);
        is(1, "seekWeights");
        weightsAre(1);
    }

    static void p21_sixSums() {
        sums(5);
        is(5, "sum", 0, 0, 0, 0, 0, -1);
        is(1, "seekWeights");
        weightsAre(0, 0, 0, 0, 0, 1);
    }

    static void p21_sevenAndEightSums() {
        for (int n = 7; n <= 8; n++) {
            fresh();
            again(n, 0, "sum", 0, 0, 0, 0, 0, -1);
            is(0, "weigh", n - 1, 20);
            is(NOT, "seekWeights");
            is(0, "weigh", 0, 0);
            is(20, "weigh", n - 1, 20);
        }
    }

    static void p21_noneRefuteByK0() {
        sums(6);
        is(NONE, "seekWeights");
    }

    static void p21_noneRefuteByANumberLeft() {
        is(0, "sum", 0, 0, 0, 0, 1, -99);
        is(NONE, "seekWeights");
    }

    static void p21_allStayIfNoneRefute() {
        twoSums(1, -7);
        is(0, "weigh", 0, 14);
        is(0, "weigh", 1, 2);
        is(1, "sums", 0);
        is(NONE, "seekWeights");
        weightsAre(14, 2);
    }

    static void p21_weightsOfTheHandAreGone() {
        twoSums(1, -1);
        is(0, "weigh", 0, 20);
        is(0, "weigh", 1, 20);
        is(1, "seekWeights");
        weightsAre(1, 1);
    }

    static void p21_theGreatestIsNotTheLast() {
        twoSums(1, -6);
        is(6, "seekWeights");
        weightsAre(6, 1);
        twoSums(6, -1);
        is(6, "seekWeights");
        weightsAre(1, 6);
    }

    static void p21_manyWeightsAreTheGreatest() {
        // 6 times the first is the second, and the next three are like it
        is(0, "sum", 0, 6, 0, 0, 0, 0);
        is(1, "sum", 1, -1, 1, 0, 0, 0);
        is(2, "sum", 0, 0, -1, 1, 0, 0);
        is(3, "sum", 1, 0, 0, -1, 1, 0);
        is(4, "sum", 0, 0, 0, 0, -1, -1);
        is(5, "sum", 1, 0, 0, 0, 0, 0);
        is(6, "seekWeights");
        weightsAre(1, 6, 6, 6, 6, 0);
    }

    static void p21_farBehindAmongAllWeights() {
        // the first four are alike, and 5 times them is 6 times the last
        is(0, "sum", 0, 1, 0, 0, 0, 0);
        is(1, "sum", 1, -1, 1, 0, 0, 0);
        is(2, "sum", 0, 0, -1, 1, 0, 0);
        is(3, "sum", 1, 0, 0, -1, 5, 0);
        is(4, "sum", 0, 0, 0, 0, 0, 0);
        is(5, "sum", 1, 0, 0, 0, -6, -1);
        is(6, "seekWeights");
        weightsAre(6, 6, 6, 6, 0, 5);
    }

    static void p21_theLastSumMakesUpForTheFirst() {
        for (int place = 1; place <= 4; place++) {
            for (int sign = -1; sign <= 1; sign += 2) {
                fresh();
                int[] n = {0, 0, 0, 0, 0, 1};
                n[place] = sign;
                is(0, "sum", n);
                for (int s = 1; s <= 4; s++) {
                    is(s, "sum", 1, 0, 0, 0, 0, 0);
                }
                n[place] = -sign;
                n[5] = -2;
                is(5, "sum", n);
                is(1, "seekWeights");
                weightsAre(1, 0, 0, 0, 0, 1);
            }
        }
    }

    static void p21_sumsThatAreGoneWeighNothing() {
        is(0, "sum", 0, 1, 0, 0, 0, 0);
        is(1, "sum", 1, -1, 0, 0, 0, 0);
        is(2, "sum", 1, 0, 0, 0, 0, -1);
        is(1, "seekWeights");
        is(3, "clear");
        is(0, "sum", 0, 1, 0, 0, 0, 0);
        is(1, "sum", 1, -1, 0, 0, 0, 0);
        is(NONE, "seekWeights");
        weightsAre(0, 0);
        is(2, "clear");
        is(0, "sum", 0, -1, 0, 0, 0, -1);
        is(NONE, "seekWeights");
    }

    static void p21_soughtAgainItIsTheSame() {
        twoSums(5, -6);
        for (int n = 1; n <= 3; n++) {
            is(6, "seekWeights");
            weightsAre(6, 5);
        }
    }

    static void p21_theGreatestNumbers() {
        is(0, "sum", 0, 9, 9, 9, 9, 99);
        is(1, "sum", 1, -9, -9, -9, -9, -99);
        is(NONE, "seekWeights");
        is(2, "sum", 1, -9, -9, -9, -9, 98);
        is(NONE, "seekWeights");
        is(3, "sum", 0, 9, 9, 9, 9, -99);
        is(1, "seekWeights");
        weightsAre(0, 0, 1, 1);
    }

    // ---- Promise 22

    static void p22_none() {
        is(0, "clear");
        is(0, "clear");
    }

    static void p22_eight() {
        sums(8);
        is(8, "clear");
        is(0, "told", 9);
    }

    static void p22_eightMayComeAgain() {
        sums(8);
        is(8, "clear");
        sums(8);
        is(FULL, "sum", 0, 0, 0, 0, 0, 0);
    }

    static void p22_weightsAreGone() {
        is(0, "sum", 0, 1, 1, 1, 1, 1);
        is(0, "weigh", 0, 20);
        is(1, "clear");
        is(0, "weighed", 0, 0);
        is(0, "sum", 0, 1, 1, 1, 1, 1);
        is(0, "weighed", 0, 0);
        is(0, "weigh", 0, 1);
    }

    static void p22_stepsTextImagesAndUndoingStay() {
        of(TWO);
        is(2, "keep", 0);
        is(2, "resolve", 0, 1, 0);
        feedAll("a1");
        sums(1);
        is(1, "clear");
        is(3, "told", 1);
        is(2, "told", 8);
        is(1, "told", 10);
        is(2, "goBack", 0);
    }

    // ---- Promise 23

    static void p23_anImageTooSmallOrTooLarge() {
        of(TWO);
        is(UNKNOWN, "keep", -1);
        is(UNKNOWN, "keep", MIN);
        is(UNKNOWN, "keep", 2);
        is(UNKNOWN, "keep", MAX);
        is(NOT, "goBack", 0);
        is(NOT, "goBack", 1);
    }

    static void p23_refusedItLeavesWhatCanBeUndone() {
        of(TWO);
        is(2, "resolve", 0, 1, 0);
        is(UNKNOWN, "keep", 2);
        is(1, "told", 10);
        is(0, "undo");
    }

    static void p23_noSteps() {
        is(0, "keep", 0);
        is(0, "goBack", 0);
    }

    static void p23_fortySteps() {
        of(ENDLESS);
        is(30, "seek");
        is(40, "keep", 1);
        is(0, "told", 10);
    }

    static void p23_nothingCanBeUndoneThen() {
        of(TWO);
        again(8, 2, "resolve", 0, 1, 0);
        is(10, "keep", 0);
        is(0, "told", 10);
        is(NOT, "undo");
        is(10, "told", 1);
    }

    static void p23_whatIsMadeBehindItCanBeUndone() {
        of(TWO);
        is(2, "keep", 0);
        is(2, "resolve", 0, 1, 0);
        is(1, "told", 10);
        is(0, "undo");
        is(2, "told", 1);
    }

    static void p23_twiceItKeepsTheLatter() {
        of(TWO);
        is(2, "keep", 0);
        is(2, "resolve", 0, 1, 0);
        is(3, "keep", 0);
        is(3, "resolve", 0, 1, 0);
        is(3, "goBack", 0);
    }

    static void p23_bothImagesAreApart() {
        of(TWO);
        is(2, "keep", 0);
        is(2, "resolve", 0, 1, 0);
        is(3, "keep", 1);
        is(2, "goBack", 0);
        is(3, "goBack", 1);
        is(2, "goBack", 0);
    }

    static void p23_sumsAndTextAreNotKept() {
        of(TWO);
        sums(1);
        feedAll("a");
        is(2, "keep", 0);
        is(1, "sum", 0, 0, 0, 0, 0, 0);
        feedAll("1");
        is(2, "goBack", 0);
        is(2, "told", 8);
        is(2, "told", 9);
    }

    // ---- Promise 24

    static void p24_anImageTooSmallOrTooLarge() {
        of(TWO);
        is(2, "keep", 0);
        is(2, "keep", 1);
        is(2, "resolve", 0, 1, 0);
        is(UNKNOWN, "goBack", -1);
        is(UNKNOWN, "goBack", MIN);
        is(UNKNOWN, "goBack", 2);
        is(UNKNOWN, "goBack", MAX);
        is(3, "told", 1);
        is(1, "told", 10);
    }

    static void p24_notKept() {
        of(TWO);
        is(2, "resolve", 0, 1, 0);
        is(3, "keep", 0);
        is(3, "resolve", 0, 1, 0);
        is(NOT, "goBack", 1);
        is(4, "told", 1);
        is(1, "told", 10);
    }

    static void p24_keptWithoutSteps() {
        is(0, "keep", 1);
        is(0, "goBack", 1);
        is(NOT, "goBack", 0);
    }

    static void p24_nothingCanBeUndoneThen() {
        of(TWO);
        is(2, "keep", 0);
        again(2, 2, "resolve", 0, 1, 0);
        is(2, "goBack", 0);
        is(0, "told", 10);
        is(NOT, "undo");
    }

    static void p24_backToMoreSteps() {
        of(ENDLESS);
        is(10, "keep", 0);
        is(30, "seek");
        int p = call("step", 39, 0);
        int n = call("step", 39, 1);
        is(40, "keep", 1);
        is(10, "goBack", 0);
        is(UNKNOWN, "step", 10, 0);
        is(40, "goBack", 1);
        is(p, "step", 39, 0);
        is(n, "step", 39, 1);
        is(FULL, "resolve", 0, 1, 0);
    }

    static void p24_backToFewerStepsThereIsRoomAgain() {
        of(ENDLESS);
        is(10, "keep", 0);
        is(30, "seek");
        is(10, "goBack", 0);
        is(30, "seek");
    }

    static void p24_stepsAreAsItKeptThemThoughOthersHadTheirNumbers() {
        of("a1 0;b2 1;b4 1;");
        is(3, "keep", 0);
        is(3, "resolve", 0, 1, 0);
        is(4, "resolve", 0, 2, 0);
        is(5, "keep", 1);
        is(3, "goBack", 0);
        is(3, "resolve", 0, 2, 0);
        is(4, "resolve", 0, 1, 0);
        is(5, "goBack", 1);
        is(2, "step", 3, 0);
        is(1, "step", 3, 4);
        is(4, "step", 4, 0);
        is(2, "step", 4, 4);
    }

    static void p24_againAndAgain() {
        of(TWO);
        is(2, "keep", 0);
        for (int k = 0; k < 3; k++) {
            is(2, "resolve", 0, 1, 0);
            is(2, "goBack", 0);
        }
        is(2, "told", 1);
    }

    static void p24_whatComesBehindLeavesTheImage() {
        of("a1 0;b2 1;b0 1;");
        is(3, "resolve", 0, 1, 0);
        is(4, "keep", 0);
        is(4, "goBack", 0);
        is(4, "resolve", 0, 2, 0);
        is(4, "goBack", 0);
        is(2, "step", 3, 0);
        is(NONE, "told", 2);
    }

    static void p24_behindAGoodTextItIsNotKept() {
        of(TWO);
        is(2, "keep", 0);
        feedAll(TWO);
        is(2, "parties");
        is(NOT, "goBack", 0);
    }
}
