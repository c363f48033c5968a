import java.util.Arrays;
import java.util.function.Supplier;

/**
 * Every number that a call is given: the last that is still taken and the first that is not, on both sides,
 * in the order of the document. What is refused changes nothing (Edges looks at that).
 */
public final class BoundsTest {
    private static final int NONE = IndentRules.NONE;
    private static final int UNKNOWN = IndentRules.UNKNOWN;
    private static final int OUTSIDE = IndentRules.OUTSIDE;
    private static final int INDEX = IndentRules.INDEX;

    public static void main(String[] args) {
        placesForALine();
        tokensOfALine();
        tokensWithZeros();
        linesToChange();
        linesToTake();
        linesToAskOf();
        settings();
        valuesOfSettings();
        whatOfLines();
        openers();
        openersOfTheFullest();
        whatOfOpeners();
        columnsSeen();
        noneIsSeenToo();
        settingsOfStylesThatFit();
        settingsOfStylesThatScore();
        whatOfScores();
        whatOfGuesses();
        pockets();
        kindsOfRows();
        lengthsOfRows();
        cellsToStoreIn();
        cellsToAskOf();
        openersToStore();
        whatOfCells();
        whatOfMany();
        Due.finish();
    }

    // ---- promises 2 to 5

    /** "UNKNOWN: at is not 0 .. how many there are" */
    private static void placesForALine() {
        Edges.bounds("put(at, 8), no lines", States::empty, (x, at) -> x.put(at, 8), UNKNOWN, 0, 0);
        Edges.bounds("put(at, 8), lines gone", States::emptied, (x, at) -> x.put(at, 8), UNKNOWN, 0, 0);
        Edges.bounds("put(at, 8), one line", () -> Due.lines(8), (x, at) -> x.put(at, 8), UNKNOWN, 0, 0, 0);
        Edges.bounds("put(at, 7), a line between", () -> Due.lines(2, 18, 3), (x, at) -> x.put(at, 7), UNKNOWN, 0, 3, 1, 0, 0);
        int[] full = new int[21];
        Arrays.fill(full, IndentRules.FULL);
        Edges.bounds("put(at, 8), 20 lines", States::full, (x, at) -> x.put(at, 8), UNKNOWN, 0, full);
    }

    /** "each is a row of 0 .. 9 TOKENS" */
    private static void tokensOfALine() {
        int[] taken = {0, 1, 9, 11, 19, 91, 99, 111, 999, 1111, 9999, 11111, 99999, 111111, 999999, 1111111, 9999999, 11111111,
            99999999, 111111111, 123456789, 987654321, 999999999};
        for (int tokens : taken) {
            IndentRules x = States.ordinary();
            Due.check("put(3, " + tokens + ") is taken", x.put(3, tokens) >= 0);
            Due.due("put(3, " + tokens + ") is told", x.ofLine(3, 0), tokens);
            Due.check("change(4, " + tokens + ") is taken", x.change(4, tokens) >= 0);
            Due.due("change(4, " + tokens + ") is told", x.ofLine(4, 0), tokens);
        }
        int[] refused = {-1, -2, -9, -11, -111111111, -999999999, -1000000000, 1000000000, 1000000001, 1111111111, 1111111112,
            1999999999, 2111111111, Integer.MAX_VALUE, Integer.MIN_VALUE, Integer.MIN_VALUE + 1};
        refusedTokens(refused);
    }

    /** "with a digit for each": the digits are 1 .. 9, so a 0 among them is none. */
    private static void tokensWithZeros() {
        for (int place = 1; place < 100000000; place *= 10) {
            refusedTokens(111111111 - place);
        }
        refusedTokens(10, 20, 90, 100, 101, 110, 901, 910, 1001, 100000000, 100000001, 111111110, 900000000, 999999990);
    }

    private static void refusedTokens(int... refused) {
        for (int tokens : refused) {
            Edges.refused("put(0, " + tokens + ")", States::empty, x -> x.put(0, tokens), OUTSIDE);
            Edges.refused("put(3, " + tokens + ")", States::ordinary, x -> x.put(3, tokens), OUTSIDE);
            Edges.refused("change(2, " + tokens + ")", States::ordinary, x -> x.change(2, tokens), OUTSIDE);
        }
    }

    private static void linesToChange() {
        Edges.bounds("change(l, 8), one line", () -> Due.lines(1), (x, l) -> x.change(l, 8), UNKNOWN, 0, 0);
        Edges.bounds("change(l, 8)", () -> Due.lines(2, 7, 2, 1), (x, l) -> x.change(l, 8), UNKNOWN, 0, 3, 2, 1, 0);
        Edges.bounds("change(l, 8), 20 lines", BoundsTest::twentyWords, (x, l) -> x.change(l, 8), UNKNOWN, 0, ones(20));
        noLine("change(l, 8)", (x, l) -> x.change(l, 8));
    }

    /** 20 lines of a word: all but the first hang. */
    private static IndentRules twentyWords() {
        IndentRules x = new IndentRules();
        for (int l = 0; l < 20; l++) {
            x.put(l, 1);
        }
        return x;
    }

    /** 1 for each line but the last one, which has none behind it. */
    private static int[] ones(int lines) {
        int[] want = new int[lines];
        Arrays.fill(want, 0, lines - 1, 1);
        return want;
    }

    private static void linesToTake() {
        Edges.bounds("take(l), one line", () -> Due.lines(1), (x, l) -> x.take(l), UNKNOWN, 0, 0);
        Edges.bounds("take(l)", () -> Due.lines(2, 7, 2, 1), (x, l) -> x.take(l), UNKNOWN, 0, 3, 2, 1, 0);
        int[] want = new int[20];
        want[0] = 1;
        Edges.bounds("take(l), 20 lines", BoundsTest::twentyWords, (x, l) -> x.take(l), UNKNOWN, 0, want);
        noLine("take(l)", (x, l) -> x.take(l));
    }

    private static void noLine(String call, Edges.Asked asked) {
        for (String name : new String[] {"empty", "emptied"}) {
            for (int l = 0; l < 20; l += 19) {
                int line = l;
                Edges.refused(call + ", " + name + ", of " + l, States.named(name), x -> asked.of(x, line), UNKNOWN);
            }
        }
    }

    private static void linesToAskOf() {
        Supplier<IndentRules> three = () -> {
            IndentRules x = Due.lines(17, 1, 23);
            x.see(2, 9);
            return x;
        };
        Edges.bounds("ofLine(l, 0)", three, (x, l) -> x.ofLine(l, 0), UNKNOWN, 0, 17, 1, 23);
        Edges.bounds("unlike(l)", three, (x, l) -> x.unlike(l), UNKNOWN, 0, 2, 2, 2);
        Edges.bounds("see(l, 3)", three, (x, l) -> x.see(l, 3), UNKNOWN, 0, NONE, NONE, 9);
        noLine("ofLine(l, 0)", (x, l) -> x.ofLine(l, 0));
        noLine("unlike(l)", (x, l) -> x.unlike(l));
        noLine("see(l, 3)", (x, l) -> x.see(l, 3));
        Edges.refusedBeside("ofLine(l, 1), full", States::full, (x, l) -> x.ofLine(l, 1), UNKNOWN, 0, 19);
        Edges.refusedBeside("unlike(l), full", States::full, (x, l) -> x.unlike(l), UNKNOWN, 0, 19);
        Edges.refusedBeside("see(l, NONE), full", States::full, (x, l) -> x.see(l, NONE), UNKNOWN, 0, 19);
        Due.due("ofLine(19, 5), full", States.full().ofLine(19, 5), 190);
        Due.due("see(19, NONE), full", States.full().see(19, NONE), 190);
    }

    /** "0 STEP, 1 HANG, 2 ALIGN, 3 OUT; 4, 8, 1, 0 at first" */
    private static void settings() {
        Edges.bounds("style(k, 1)", States::empty, (x, k) -> x.style(k, 1), UNKNOWN, 0, 4, 8, 1, 0);
        Edges.bounds("style(k, 1), ordinary", States::ordinary, (x, k) -> x.style(k, 1), UNKNOWN, 0, 3, 5, 1, 1);
    }

    /** "STEP (1 .. 8), HANG (1 .. 8), ALIGN (0, 1), OUT (0, 1)" */
    private static void valuesOfSettings() {
        Edges.bounds("style(0, v)", States::empty, (x, v) -> x.style(0, v), OUTSIDE, 1, 4, 4, 4, 4, 4, 4, 4, 4);
        Edges.bounds("style(1, v)", States::empty, (x, v) -> x.style(1, v), OUTSIDE, 1, 8, 8, 8, 8, 8, 8, 8, 8);
        Edges.bounds("style(2, v)", States::empty, (x, v) -> x.style(2, v), OUTSIDE, 0, 1, 1);
        Edges.bounds("style(3, v)", States::empty, (x, v) -> x.style(3, v), OUTSIDE, 0, 0, 0);
        for (int k = 0; k < 4; k++) {
            int setting = k;
            Edges.refusedBeside("style(" + k + ", v), full", States::full, (x, v) -> x.style(setting, v), OUTSIDE,
                k < 2 ? 1 : 0, k < 2 ? 8 : 1);
        }
    }

    // ---- promises 6 to 8

    private static void whatOfLines() {
        Supplier<IndentRules> seen = () -> {
            IndentRules x = Due.lines(2, 735);
            x.see(1, 200);
            return x;
        };
        Edges.bounds("ofLine(1, what)", seen, (x, what) -> x.ofLine(1, what), OUTSIDE, 0, 735, 4, 8, 1, 1, 200);
        Edges.bounds("ofLine(19, what)", States::full, (x, what) -> x.ofLine(19, what), OUTSIDE, 0, 444444444, 112, 121, 171, 0,
            190);
    }

    private static void openers() {
        Edges.bounds("opener(c, 4)", States::ordinary, (x, c) -> x.opener(c, 4), UNKNOWN, 0, 1, 2, 3, 1);
        Edges.bounds("opener(c, 0), one", () -> Due.lines(0, 2), (x, c) -> x.opener(c, 0), UNKNOWN, 0, 1);
        for (String name : new String[] {"empty", "emptied"}) {
            Edges.refused("opener(0, 0), " + name, States.named(name), x -> x.opener(0, 0), UNKNOWN);
        }
        Edges.refused("opener(0, 0), hidden", () -> Due.lines(94), x -> x.opener(0, 0), UNKNOWN);
        Edges.refused("opener(0, 0), closers", () -> Due.lines(35), x -> x.opener(0, 0), UNKNOWN);
    }

    /** 20 lines of 9 openers: 180 is the most. */
    private static void openersOfTheFullest() {
        int[] lines = new int[180];
        int[] tokens = new int[180];
        for (int c = 0; c < 180; c++) {
            lines[c] = c / 9;
            tokens[c] = c % 9;
        }
        Edges.bounds("opener(c, 0), full", States::full, (x, c) -> x.opener(c, 0), UNKNOWN, 0, lines);
        Edges.bounds("opener(c, 1), full", States::full, (x, c) -> x.opener(c, 1), UNKNOWN, 0, tokens);
    }

    private static void whatOfOpeners() {
        Edges.bounds("opener(2, what)", States::ordinary, (x, what) -> x.opener(2, what), OUTSIDE, 0, 2, 1, 11, 8, 3, 3);
        Edges.bounds("opener(0, what)", States::full, (x, what) -> x.opener(0, what), OUTSIDE, 0, 0, 0, 0, 0, 1, NONE);
    }

    // ---- promises 9 to 13

    /** "of each LINE a column (0 .. 200) that was seen" */
    private static void columnsSeen() {
        int[] nothing = new int[201];
        Arrays.fill(nothing, NONE);
        Edges.bounds("see(0, v)", () -> Due.lines(1), (x, v) -> x.see(0, v), OUTSIDE, 0, nothing);
        Edges.refusedBeside("see(19, v), full", States::full, (x, v) -> x.see(19, v), OUTSIDE, 0, 200);
        for (int v = 0; v <= 200; v += 200) {
            IndentRules x = States.ordinary();
            x.see(5, v);
            Due.due("see(5, " + v + ") is told", x.ofLine(5, 5), v);
        }
    }

    /** "What was SEEN of a LINE becomes v (NONE: nothing)": -9 is taken, its neighbours are not. */
    private static void noneIsSeenToo() {
        Edges.bounds("see(1, v) by NONE", States::ordinary, (x, v) -> x.see(1, v), OUTSIDE, NONE, 3);
        IndentRules x = States.ordinary();
        x.see(1, NONE);
        Due.due("NONE is nothing", x.ofLine(1, 5), NONE);
        Due.due("NONE is not seen", x.many(4), 3);
        Due.due("NONE of what was nothing", x.see(1, NONE), NONE);
    }

    private static void settingsOfStylesThatFit() {
        Supplier<IndentRules> seen = BoundsTest::seenByAll;
        Edges.bounds("fits(v, 2, 0, 0)", seen, (x, v) -> x.fits(v, 2, 0, 0), OUTSIDE, 1, 3, 3, 4, 3, 3, 3, 3, 3);
        Edges.bounds("fits(3, v, 0, 0)", seen, (x, v) -> x.fits(3, v, 0, 0), OUTSIDE, 1, 4, 4, 4, 4, 4, 4, 4, 5);
        Edges.bounds("fits(3, 8, v, 0)", seen, (x, v) -> x.fits(3, 8, v, 0), OUTSIDE, 0, 5, 6);
        Edges.bounds("fits(3, 8, 1, v)", seen, (x, v) -> x.fits(3, 8, 1, v), OUTSIDE, 0, 6, 7);
    }

    private static void settingsOfStylesThatScore() {
        Supplier<IndentRules> seen = BoundsTest::seenByAll;
        Edges.bounds("score(v, 2, 0, 0, 1)", seen, (x, v) -> x.score(v, 2, 0, 0, 1), OUTSIDE, 1, 3000, 3000, 3500, 3000, 3000,
            3000, 3000, 3000);
        Edges.bounds("score(3, v, 0, 0, 1)", seen, (x, v) -> x.score(3, v, 0, 0, 1), OUTSIDE, 1, 3500, 3500, 3500, 3500, 3500,
            3500, 3500, 4500);
        Edges.bounds("score(3, 8, v, 0, 1)", seen, (x, v) -> x.score(3, 8, v, 0, 1), OUTSIDE, 0, 4500, 5000);
        Edges.bounds("score(3, 8, 1, v, 1)", seen, (x, v) -> x.score(3, 8, 1, v, 1), OUTSIDE, 0, 5000, 5500);
    }

    /** Seen as by 3, 8, 1, 1; each setting decides one line, and three lines are so by all styles. */
    private static IndentRules seenByAll() {
        IndentRules x = Due.lines(2, 8, 3, 1, 8, 141, 58);
        int[] seen = {0, 3, 3, 0, 8, 0, 3};
        for (int l = 0; l < seen.length; l++) {
            x.see(l, seen[l]);
        }
        return x;
    }

    private static void whatOfScores() {
        Edges.bounds("score(3, 8, 1, 1, what)", BoundsTest::seenByAll, (x, what) -> x.score(3, 8, 1, 1, what), OUTSIDE, 0,
            Float.floatToIntBits(5.5f), 5500);
        Edges.bounds("score(1, 1, 0, 0, what), empty", States::empty, (x, what) -> x.score(1, 1, 0, 0, what), OUTSIDE, 0, 0, 0);
    }

    private static void whatOfGuesses() {
        Edges.bounds("guess(what)", BoundsTest::seenByAll, (x, what) -> x.guess(what), OUTSIDE, 0, 3, 8, 1, 1,
            Float.floatToIntBits(5.5f));
        int state = IndentRules.STATE;
        Edges.bounds("guess(what), empty", States::empty, (x, what) -> x.guess(what), OUTSIDE, 0, state, state, state, state,
            state);
    }

    // ---- promises 14 to 18

    /** "POCKETS 0 .. 2" */
    private static void pockets() {
        Edges.bounds("pocket(p, 0, 1)", States::empty, (x, p) -> x.pocket(p, 0, 1), UNKNOWN, 0, 1, 1, 1);
        Edges.bounds("store(p, 0, 9)", States::full, (x, p) -> x.store(p, 0, 9), UNKNOWN, 0, 1, IndentRules.KIND, 1);
        Edges.bounds("copy(p, 1)", States::full, (x, p) -> x.copy(p, 1), UNKNOWN, 0, 1, 1, 1);
        Edges.bounds("copy(1, p)", States::full, (x, p) -> x.copy(1, p), UNKNOWN, 0, 1, 1, 1);
        Edges.bounds("ofPocket(p, 0, 2)", States::full, (x, p) -> x.ofPocket(p, 0, 2), UNKNOWN, 0, 3, 1, 3);
    }

    /** "OUTSIDE: kind (0 .. 3)" */
    private static void kindsOfRows() {
        Edges.bounds("pocket(0, kind, 1)", States::empty, (x, kind) -> x.pocket(0, kind, 1), OUTSIDE, 0, 1, 1, 1, 1);
        Edges.bounds("pocket(2, kind, 6)", States::full, (x, kind) -> x.pocket(2, kind, 6), OUTSIDE, 0, 1, 1, 1, 1);
    }

    /** "a row of 1 .. 6 cells" */
    private static void lengthsOfRows() {
        Edges.bounds("pocket(0, 0, n)", States::empty, (x, n) -> x.pocket(0, 0, n), OUTSIDE, 1, 1, 1, 1, 1, 1, 1);
        Edges.bounds("pocket(2, 3, n)", States::full, (x, n) -> x.pocket(2, 3, n), OUTSIDE, 1, 1, 1, 1, 1, 1, 1);
    }

    private static Supplier<IndentRules> rowOf(int n) {
        return () -> {
            IndentRules x = States.full();
            x.pocket(0, 0, n);
            return x;
        };
    }

    /** "INDEX: there is no such cell": the cells of a row of n are 0 .. n - 1. */
    private static void cellsToStoreIn() {
        for (int n = 1; n <= 6; n++) {
            int[] stored = new int[n];
            Arrays.fill(stored, 1);
            Edges.bounds("store(0, cell, 179), row of " + n, rowOf(n), (x, cell) -> x.store(0, cell, 179), INDEX, 0, stored);
        }
    }

    private static void cellsToAskOf() {
        for (int n = 1; n <= 6; n++) {
            int[] nothing = new int[n];
            Arrays.fill(nothing, NONE);
            Edges.bounds("ofPocket(0, cell, 0), row of " + n, rowOf(n), (x, cell) -> x.ofPocket(0, cell, 0), INDEX, 0, nothing);
        }
        Edges.bounds("ofPocket(0, cell, 1)", States::full, (x, cell) -> x.ofPocket(0, cell, 1), INDEX, 0, 4, 5, 6, 7, 8, 9);
    }

    private static void openersToStore() {
        int kind = IndentRules.KIND;
        Edges.bounds("store(0, 0, c)", States::ordinary, (x, c) -> x.store(0, 0, c), UNKNOWN, 0, kind, 1, 1, kind);
        Edges.refusedBeside("store(0, 0, c), full", States::full, (x, c) -> x.store(0, 0, c), UNKNOWN, 0, 179);
        Due.due("store(0, 0, 179), full", States.full().store(0, 0, 179), 1);
    }

    private static void whatOfCells() {
        Edges.bounds("ofPocket(0, 1, what)", States::ordinary, (x, what) -> x.ofPocket(0, 1, what), OUTSIDE, 0, 2, 11, 3);
        Edges.bounds("ofPocket(0, 0, what)", States::ordinary, (x, what) -> x.ofPocket(0, 0, what), OUTSIDE, 0, NONE, NONE, NONE);
    }

    private static void whatOfMany() {
        Edges.bounds("many(what), empty", States::empty, (x, what) -> x.many(what), OUTSIDE, 0, 0, 0, 0, 0, 0, 0);
        Edges.bounds("many(what), emptied", States::emptied, (x, what) -> x.many(what), OUTSIDE, 0, 0, 0, 0, 0, 0, 0);
        Edges.bounds("many(what)", States::ordinary, (x, what) -> x.many(what), OUTSIDE, 0, 10, 4, 1, 1, 4, 18);
        Edges.bounds("many(what), full", States::full, (x, what) -> x.many(what), OUTSIDE, 0, 20, 180, 180, 0, 20, 180);
    }
}
