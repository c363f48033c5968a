/**
 * The promises, one after another: each sentence that names a case (the last one, others, none, the empty and the
 * full object) has a test of its own, and stands above it. Refusals are in RefusalsTest, bounds in BoundsTest.
 */
public final class PromisesTest {
    private static final int NONE = IndentRules.NONE;

    public static void main(String[] args) {
        linesComeAndGo();
        columnsAreTold();
        stylesAreTried();
        pocketsAreFilled();
        Due.finish();
    }

    private static void linesComeAndGo() {
        newHasNoLines();
        newHasNothingInPockets();
        newObjectsAreApart();
        putAheadOrAsTheLast();
        putIsSeenNone();
        putMovesAllOthers();
        putDoesNotCountItself();
        changeLeavesSeen();
        changeMovesAllOthers();
        changeDoesNotCountItself();
        changeToTheSame();
        takeMovesAllOthers();
        takeOfTheOnlyLine();
        takeMakesRoom();
        whatItWasIsJustAheadOfTheCall();
        linesWithoutTokensDoNotMove();
        styleTellsWhatItWas();
        styleChangesOneSetting();
    }

    private static void columnsAreTold() {
        ofLineOfALineWithoutTokens();
        ofLineCountsStraysOfItAlone();
        ofLineOpenAsItBegins();
        openerWithoutAPartner();
        openerWithAPartnerThatGoes();
        unlikeFromThatLineOn();
        unlikeOfWhatCountsAlone();
    }

    private static void stylesAreTried() {
        seeTellsWhatItWas();
        seeOfOneLine();
        fitsOfAllAndNone();
        fitsLeavesTheStyle();
        scoreOfBothSorts();
        guessLeavesTheStyle();
        followTakesAllFour();
        followMovesAllButTheFirst();
        followWhenNothingFits();
        followTwice();
    }

    private static void pocketsAreFilled() {
        pocketIsANewRow();
        pocketOfTheSameKindIsEmptyToo();
        storeOverWhatLiesThere();
        storeOneOpenerInManyCells();
        storeOfTheLastOpener();
        copyHasLengthAndKind();
        copyIntoALongerRow();
        copyAndLaterStores();
        copyOntoItself();
        ofPocketOfAnEmptyCell();
        manyOfTheEmpty();
        manyOfTheFull();
        manyStrays();
        manySeenWithoutTokens();
        allCallsOfAnObject();
    }

    private static void cellIs(String name, IndentRules x, int p, int cell, int line, int at, int kind) {
        Due.due(name + ": LINE", x.ofPocket(p, cell, 0), line);
        Due.due(name + ": AT", x.ofPocket(p, cell, 1), at);
        Due.due(name + ": KIND", x.ofPocket(p, cell, 2), kind);
    }

    private static void manyIs(String name, IndentRules x, int... want) {
        for (int what = 0; what < want.length; what++) {
            Due.due(name + ": many(" + what + ")", x.many(what), want[what]);
        }
    }

    /** A first line of these tokens and ENDs below it, so many lines in all. */
    private static IndentRules endsBelow(int first, int lines) {
        IndentRules x = Due.lines(first);
        for (int l = 1; l < lines; l++) {
            x.put(l, 8);
        }
        return x;
    }

    // ---- promise 1

    /** "No LINES" */
    private static void newHasNoLines() {
        IndentRules x = new IndentRules();
        manyIs("new", x, 0, 0, 0, 0, 0, 0);
        Due.due("no line 0", x.ofLine(0, 0), IndentRules.UNKNOWN);
        Due.due("no line to take", x.take(0), IndentRules.UNKNOWN);
        Due.due("no line to change", x.change(0, 1), IndentRules.UNKNOWN);
        Due.due("no line to see", x.see(0, 0), IndentRules.UNKNOWN);
        Due.due("no line unlike", x.unlike(0), IndentRules.UNKNOWN);
        Due.due("no opener", x.opener(0, 0), IndentRules.UNKNOWN);
        Due.due("nothing fits", x.fits(4, 8, 1, 0), 0);
        Due.due("nothing to guess", x.guess(0), IndentRules.STATE);
        Due.due("nothing to follow", x.follow(), IndentRules.STATE);
    }

    /** "POCKETS have nothing" */
    private static void newHasNothingInPockets() {
        IndentRules x = new IndentRules();
        for (int p = 0; p < 3; p++) {
            for (int to = 0; to < 3; to++) {
                Due.due("copy(" + p + ", " + to + ")", x.copy(p, to), IndentRules.STATE);
            }
            for (int cell = -1; cell <= 6; cell++) {
                Due.due("ofPocket(" + p + ", " + cell + ", 0)", x.ofPocket(p, cell, 0), IndentRules.STATE);
            }
        }
    }

    private static void newObjectsAreApart() {
        IndentRules x = States.full();
        IndentRules y = new IndentRules();
        x.style(0, 1);
        manyIs("another", y, 0, 0, 0, 0, 0, 0);
        Due.due("another's pocket", y.ofPocket(0, 0, 0), IndentRules.STATE);
        Due.due("another's STEP", y.style(0, 2), 4);
        y.put(0, 1);
        Due.due("the one's line", x.ofLine(0, 0), 222222222);
        Due.due("the one's STEP", x.style(0, 1), 1);
    }

    // ---- promise 2

    /** "A LINE comes ahead of LINE at (or as the last one)" */
    private static void putAheadOrAsTheLast() {
        int[][] want = {{7, 1, 2, 3}, {1, 7, 2, 3}, {1, 2, 7, 3}, {1, 2, 3, 7}};
        for (int at = 0; at <= 3; at++) {
            IndentRules x = Due.lines(1, 2, 3);
            x.put(at, 7);
            Due.ofLines("put(" + at + ", 7)", x, 0, want[at]);
        }
        IndentRules y = new IndentRules();
        y.put(0, 7);
        Due.ofLines("put(0, 7) of none", y, 0, 7);
    }

    /** "SEEN NONE" */
    private static void putIsSeenNone() {
        for (int at = 0; at <= 2; at++) {
            IndentRules x = Due.lines(1, 1);
            x.see(0, 3);
            x.see(1, 4);
            x.put(at, 1);
            Due.due("the new line at " + at, x.ofLine(at, 5), NONE);
            Due.due("the others keep theirs", x.many(4), 2);
        }
    }

    /** "of how many others COLUMN is not what it was": 19 at most. */
    private static void putMovesAllOthers() {
        IndentRules x = endsBelow(8, 19);
        Due.due("the 20th moves 19", x.put(0, 2), 19);
        Due.due("they moved", x.ofLine(19, 1), 4);
        IndentRules y = endsBelow(8, 19);
        Due.due("as the last it moves none", y.put(19, 2), 0);
        IndentRules z = endsBelow(8, 19);
        Due.due("behind the first it moves 18", z.put(1, 2), 18);
        IndentRules same = endsBelow(8, 19);
        Due.due("an END moves none", same.put(0, 8), 0);
        Due.due("the first of all moves none", new IndentRules().put(0, 2), 0);
    }

    private static void putDoesNotCountItself() {
        IndentRules x = Due.lines(2, 3);
        Due.due("a line that stands in", x.put(1, 8), 0);
        Due.ofLines("a line that stands in", x, 1, 0, 4, 0);
        IndentRules y = Due.lines(1, 0, 3);
        Due.due("a line that hangs, and others that stay", y.put(1, 1), 0);
        Due.ofLines("a line that hangs, and others that stay", y, 1, 0, 8, 0, 8);
    }

    // ---- promise 3

    /** "A LINE is another one (SEEN stays)" */
    private static void changeLeavesSeen() {
        IndentRules x = Due.lines(1, 2, 3);
        x.see(1, 200);
        x.change(1, 0);
        Due.ofLines("without tokens", x, 5, NONE, 200, NONE);
        x.change(1, 987654321);
        Due.ofLines("with the most", x, 5, NONE, 200, NONE);
        Due.ofLines("the others stay", x, 0, 1, 987654321, 3);
        x.change(0, 5);
        Due.due("NONE stays, too", x.ofLine(0, 5), NONE);
    }

    private static void changeMovesAllOthers() {
        IndentRules x = endsBelow(2, 20);
        Due.due("19 move back", x.change(0, 8), 19);
        Due.due("and in again", x.change(0, 2), 19);
        Due.due("and further", x.change(0, 4), 19);
        Due.due("the last one moves none", x.change(19, 2), 0);
        Due.due("the one ahead of it moves one", x.change(18, 41), 1);
    }

    private static void changeDoesNotCountItself() {
        IndentRules x = Due.lines(2, 8, 8);
        Due.due("itself goes out", x.change(2, 3), 0);
        Due.ofLines("itself goes out", x, 1, 0, 4, 0);
        Due.due("itself is without tokens", x.change(1, 0), 0);
        Due.ofLines("itself is without tokens", x, 1, 0, 0, 0);
        Due.due("itself comes in, and the other one stays", x.change(1, 9), 0);
        Due.ofLines("itself comes in, and the other one stays", x, 1, 0, 4, 0);
    }

    private static void changeToTheSame() {
        IndentRules x = States.ordinary();
        Due.due("to the same", x.change(2, 141), 0);
        Due.check("it is as it was", Probe.answers(x).equals(Probe.answers(States.ordinary())));
    }

    // ---- promise 4

    private static void takeMovesAllOthers() {
        IndentRules x = endsBelow(2, 20);
        Due.due("the first moves 19", x.take(0), 19);
        Due.due("19 are left", x.many(0), 19);
        IndentRules y = endsBelow(2, 20);
        Due.due("the last moves none", y.take(19), 0);
        IndentRules z = endsBelow(2, 20);
        z.change(1, 41);
        Due.due("one between moves those behind it", z.take(1), 18);
        Due.due("they moved back", z.ofLine(1, 1), 4);
    }

    private static void takeOfTheOnlyLine() {
        IndentRules x = Due.lines(24);
        Due.due("the only one", x.take(0), 0);
        manyIs("none is left", x, 0, 0, 0, 0, 0, 0);
        Due.due("no more to take", x.take(0), IndentRules.UNKNOWN);
        x.put(0, 8);
        Due.ofLines("nothing is open behind it", x, 3, 0);
        Due.ofLines("and nothing was LAST", x, 1, 0);
    }

    private static void takeMakesRoom() {
        for (int l = 0; l < 20; l += 19) {
            IndentRules x = endsBelow(8, 20);
            Due.due("full", x.put(0, 8), IndentRules.FULL);
            x.take(l);
            Due.due("line 19 is no more", x.ofLine(19, 0), IndentRules.UNKNOWN);
            Due.due("room for one", x.put(19, 7), 0);
            Due.due("it is line 19", x.ofLine(19, 0), 7);
            Due.due("the one ahead of it stays", x.ofLine(18, 0), 8);
            Due.due("full again", x.put(0, 8), IndentRules.FULL);
        }
    }

    /** "not what it was": as the call came, not at some call before it. */
    private static void whatItWasIsJustAheadOfTheCall() {
        IndentRules x = Due.lines(2, 8);
        Due.due("out", x.take(0), 1);
        Due.due("in", x.put(0, 2), 1);
        Due.due("out again", x.change(0, 8), 1);
        x.style(1, 3);
        Due.due("in by HANG", x.change(0, 1), 1);
        x.style(1, 5);
        Due.due("style has moved it before", x.change(0, 16), 0);
        Due.ofLines("style has moved it before", x, 1, 0, 5);
    }

    private static void linesWithoutTokensDoNotMove() {
        IndentRules x = Due.lines(8, 0, 0, 8);
        Due.due("put", x.put(0, 2), 2);
        Due.due("change", x.change(0, 41), 2);
        Due.due("take", x.take(0), 2);
    }

    // ---- promise 5

    /** "A SETTING of the STYLE becomes v: what it was" */
    private static void styleTellsWhatItWas() {
        int[][] values = {{4, 1, 8, 4, 4}, {8, 1, 8, 8, 2}, {1, 0, 1, 1, 0}, {0, 1, 0, 0, 1}};
        for (int k = 0; k < 4; k++) {
            IndentRules x = new IndentRules();
            for (int i = 1; i < values[k].length; i++) {
                Due.due("style(" + k + ", " + values[k][i] + ")", x.style(k, values[k][i]), values[k][i - 1]);
            }
        }
    }

    private static void styleChangesOneSetting() {
        int[] first = {4, 8, 1, 0};
        int[] other = {3, 5, 0, 1};
        for (int k = 0; k < 4; k++) {
            IndentRules x = new IndentRules();
            x.style(k, other[k]);
            for (int i = 0; i < 4; i++) {
                Due.due("style " + k + " changed, style " + i, x.style(i, 1), i == k ? other[i] : first[i]);
            }
        }
    }

    // ---- promise 6

    /** "2 COLUMN and all widths (0: it has no TOKENS)" */
    private static void ofLineOfALineWithoutTokens() {
        IndentRules x = Due.lines(21, 0);
        x.see(1, 0);
        int[] want = {0, 0, 0, 1, 0, 0};
        for (int what = 0; what < want.length; what++) {
            Due.due("ofLine(1, " + what + ")", x.ofLine(1, what), want[what]);
        }
    }

    /** "4 how many CLOSERS of it are STRAY" */
    private static void ofLineCountsStraysOfItAlone() {
        IndentRules x = Due.lines(3, 2335, 0, 333333333, 23);
        Due.ofLines("stray", x, 4, 1, 2, 0, 9, 0);
    }

    /** "3 how many OPENERS are open as it begins": not those of its own. */
    private static void ofLineOpenAsItBegins() {
        IndentRules x = Due.lines(222222222, 3, 24, 5, 0);
        Due.ofLines("open", x, 3, 0, 9, 8, 10, 9);
        Due.due("the most", States.full().ofLine(19, 3), 171);
    }

    // ---- promise 7

    /** "5 the LINE of its PARTNER (NONE: there is none)" */
    private static void openerWithoutAPartner() {
        Due.due("no closer", Due.lines(2).opener(0, 5), NONE);
        Due.due("a closer ahead of it", Due.lines(32).opener(0, 5), NONE);
        Due.due("a closer of the other sort", Due.lines(2, 5).opener(0, 5), NONE);
        Due.due("a closer with another on top", Due.lines(24, 3).opener(0, 5), NONE);
        Due.due("a closer behind a note", Due.lines(2, 93).opener(0, 5), NONE);
        Due.due("on line 0", Due.lines(23).opener(0, 5), 0);
    }

    private static void openerWithAPartnerThatGoes() {
        IndentRules x = Due.lines(2, 8, 3);
        Due.due("there", x.opener(0, 5), 2);
        x.take(1);
        Due.due("its line has another number", x.opener(0, 5), 1);
        x.change(1, 93);
        Due.due("hidden", x.opener(0, 5), NONE);
        x.change(1, 3);
        Due.due("there again", x.opener(0, 5), 1);
        x.take(1);
        Due.due("gone", x.opener(0, 5), NONE);
    }

    // ---- promise 8

    /** "The first LINE from l on whose COLUMN is not what was SEEN" */
    private static void unlikeFromThatLineOn() {
        IndentRules x = endsBelow(8, 20);
        x.see(0, 1);
        x.see(19, 1);
        Due.due("the first line itself", x.unlike(0), 0);
        for (int l = 1; l < 20; l++) {
            Due.due("from " + l + " on", x.unlike(l), 19);
        }
        x.see(19, 0);
        Due.due("none from 1 on: those ahead of it do not count", x.unlike(1), NONE);
        Due.due("from 0 on", x.unlike(0), 0);
    }

    /** "(it was SEEN and has TOKENS); NONE" */
    private static void unlikeOfWhatCountsAlone() {
        IndentRules x = Due.lines(2, 8, 0);
        Due.due("nothing was seen", x.unlike(0), NONE);
        x.see(2, 200);
        Due.due("without tokens", x.unlike(0), NONE);
        x.see(1, 200);
        Due.due("seen, with tokens", x.unlike(0), 1);
        x.see(1, NONE);
        Due.due("not seen any more", x.unlike(0), NONE);
    }

    // ---- promise 9

    /** "What was SEEN of a LINE becomes v (NONE: nothing): what it was" */
    private static void seeTellsWhatItWas() {
        IndentRules x = Due.lines(0);
        int[] values = {NONE, 0, 200, 200, NONE, NONE, 1};
        for (int i = 1; i < values.length; i++) {
            Due.due("see(0, " + values[i] + ")", x.see(0, values[i]), values[i - 1]);
            Due.due("ofLine(0, 5)", x.ofLine(0, 5), values[i]);
        }
    }

    private static void seeOfOneLine() {
        IndentRules x = Due.lines(8, 8, 8);
        x.see(1, 5);
        Due.ofLines("of that line", x, 5, NONE, 5, NONE);
        Due.ofLines("its column stays", x, 1, 0, 0, 0);
        Due.due("seen lines", x.many(4), 1);
    }

    // ---- promise 10

    private static void fitsOfAllAndNone() {
        IndentRules x = endsBelow(2, 20);
        for (int l = 0; l < 20; l++) {
            x.see(l, l == 0 ? 0 : 6);
        }
        Due.due("all", x.fits(6, 1, 0, 0), 20);
        Due.due("one", x.fits(5, 1, 0, 0), 1);
        x.see(0, 1);
        Due.due("none", x.fits(5, 1, 0, 0), 0);
    }

    private static void fitsLeavesTheStyle() {
        Edges.changesNothing("fits", States::ordinary, x -> x.fits(8, 1, 0, 0));
        Edges.changesNothing("score", States::ordinary, x -> x.score(8, 1, 0, 0, 1));
    }

    // ---- promise 11

    /** "its bits (what 0), a thousand times it, cut to a whole number (1)" */
    private static void scoreOfBothSorts() {
        IndentRules x = Due.lines(8, 2, 8, 4, 8);
        int[] seen = {0, 0, 4, 4, 12};
        float[] sums = {1f, 2f, 2.5f, 3f, 3.25f};
        for (int l = 0; l < 5; l++) {
            x.see(l, seen[l]);
            Due.due("bits of " + sums[l], x.score(4, 8, 1, 0, 0), Float.floatToIntBits(sums[l]));
            Due.due("a thousand times " + sums[l], x.score(4, 8, 1, 0, 1), (int) (1000 * sums[l]));
        }
    }

    // ---- promises 12 and 13

    private static void guessLeavesTheStyle() {
        for (int what = 0; what <= 4; what++) {
            int asked = what;
            Edges.changesNothing("guess(" + what + ")", States::ordinary, x -> x.guess(asked));
        }
    }

    /** "The STYLE becomes GUESS" */
    private static void followTakesAllFour() {
        IndentRules x = Due.lines(7, 8, 1, 8, 141, 8, 5, 8, 2, 3);
        int[] seen = {0, 3, 0, 5, 0, 4, 3, 5, 0, 3};
        for (int l = 0; l < seen.length; l++) {
            x.see(l, seen[l]);
        }
        int[] want = {3, 5, 1, 1};
        for (int what = 0; what < 4; what++) {
            Due.due("guess(" + what + ")", x.guess(what), want[what]);
        }
        Due.due("follow()", x.follow(), 4);
        Due.ofLines("as seen", x, 1, seen);
        for (int k = 0; k < 4; k++) {
            Due.due("style " + k, x.style(k, 1), want[k]);
        }
    }

    /** "of how many LINES COLUMN is not what it was": the first line always stands at 0. */
    private static void followMovesAllButTheFirst() {
        IndentRules x = endsBelow(2, 20);
        x.see(19, 1);
        Due.due("follow()", x.follow(), 19);
        Due.due("it is as seen", x.unlike(0), NONE);
    }

    private static void followWhenNothingFits() {
        IndentRules x = endsBelow(2, 4);
        x.see(3, 200);
        Due.due("follow()", x.follow(), 3);
        int[] want = {1, 1, 0, 0};
        for (int k = 0; k < 4; k++) {
            Due.due("the first style of all, " + k, x.style(k, 1), want[k]);
        }
    }

    private static void followTwice() {
        IndentRules x = endsBelow(2, 4);
        x.see(1, 7);
        Due.due("follow()", x.follow(), 3);
        Due.due("follow() again", x.follow(), 0);
        x.see(1, 4);
        Due.due("follow() back", x.follow(), 3);
    }

    // ---- promise 14

    /** "A POCKET has a new row of n cells" */
    private static void pocketIsANewRow() {
        IndentRules x = States.full();
        Due.due("a shorter one", x.pocket(0, 1, 1), 1);
        cellIs("empty", x, 0, 0, NONE, NONE, NONE);
        Due.due("no second cell", x.ofPocket(0, 1, 0), IndentRules.INDEX);
        Due.due("braces", x.store(0, 0, 0), 1);
        Due.due("no brackets", x.store(0, 0, 9), IndentRules.KIND);
        Due.due("a longer one", x.pocket(0, 2, 6), 1);
        for (int cell = 0; cell < 6; cell++) {
            cellIs("what lay there before is gone", x, 0, cell, NONE, NONE, NONE);
        }
        cellIs("the other pockets stay", x, 1, 5, 0, 5, 1);
        cellIs("the other pockets stay", x, 2, 5, 1, 9, 3);
    }

    private static void pocketOfTheSameKindIsEmptyToo() {
        IndentRules x = States.full();
        x.pocket(2, 2, 6);
        for (int cell = 0; cell < 6; cell++) {
            cellIs("empty", x, 2, cell, NONE, NONE, NONE);
        }
    }

    // ---- promise 15

    private static void storeOverWhatLiesThere() {
        IndentRules x = States.full();
        Due.due("over another", x.store(0, 5, 179), 1);
        cellIs("the last opener", x, 0, 5, 19, 112 + 8, 2);
        cellIs("the cell beside it", x, 0, 4, 1, 8, 3);
    }

    private static void storeOneOpenerInManyCells() {
        IndentRules x = Due.lines(2);
        for (int p = 0; p < 3; p++) {
            x.pocket(p, 0, 2);
            for (int cell = 0; cell < 2; cell++) {
                Due.due("store(" + p + ", " + cell + ", 0)", x.store(p, cell, 0), 1);
                cellIs("there, too", x, p, cell, 0, 0, 1);
            }
        }
    }

    private static void storeOfTheLastOpener() {
        IndentRules x = Due.lines(2, 24);
        x.pocket(0, 0, 1);
        Due.due("the last", x.store(0, 0, 2), 1);
        cellIs("the last", x, 0, 0, 1, 5, 2);
        Due.due("one more", x.store(0, 0, 3), IndentRules.UNKNOWN);
        cellIs("it stays", x, 0, 0, 1, 5, 2);
    }

    // ---- promise 16

    /** "A POCKET has a row like that of another one then, with what lies in it" */
    private static void copyHasLengthAndKind() {
        for (int kind = 0; kind <= 3; kind++) {
            for (int n = 1; n <= 6; n++) {
                IndentRules x = Due.lines(2414);
                x.pocket(0, kind, n);
                Due.due("copy(0, 2)", x.copy(0, 2), 1);
                Due.due("the last cell", x.ofPocket(2, n - 1, 0), NONE);
                Due.due("no more cells", x.ofPocket(2, n, 0), IndentRules.INDEX);
                for (int c = 0; c < 3; c++) {
                    Due.due("kind " + kind + ", opener " + c, x.store(2, n - 1, c), x.store(0, n - 1, c));
                }
            }
        }
    }

    private static void copyIntoALongerRow() {
        IndentRules x = Due.lines(2414);
        x.pocket(0, 1, 1);
        x.store(0, 0, 0);
        x.pocket(1, 0, 6);
        for (int cell = 0; cell < 6; cell++) {
            x.store(1, cell, 1);
        }
        x.copy(0, 1);
        cellIs("its one cell", x, 1, 0, 0, 0, 1);
        Due.due("no second cell", x.ofPocket(1, 1, 0), IndentRules.INDEX);
        Due.due("its kind", x.store(1, 0, 1), IndentRules.KIND);
    }

    /** "(what is stored in one of them later does not come into the other one)" */
    private static void copyAndLaterStores() {
        IndentRules x = Due.lines(2414);
        x.pocket(0, 0, 2);
        x.store(0, 0, 0);
        x.copy(0, 1);
        x.store(0, 0, 1);
        x.store(0, 1, 2);
        cellIs("the copy's first cell", x, 1, 0, 0, 0, 1);
        cellIs("the copy's second cell", x, 1, 1, NONE, NONE, NONE);
        x.store(1, 1, 0);
        cellIs("the first one's second cell", x, 0, 1, 0, 5, 2);
        x.pocket(0, 3, 6);
        cellIs("a new row", x, 1, 0, 0, 0, 1);
        x.copy(1, 2);
        x.store(1, 0, 2);
        cellIs("a copy of a copy", x, 2, 0, 0, 0, 1);
    }

    private static void copyOntoItself() {
        IndentRules x = States.ordinary();
        Due.due("copy(0, 0)", x.copy(0, 0), 1);
        Due.due("copy(1, 1)", x.copy(1, 1), 1);
        Due.check("all is as it was", Probe.answers(x).equals(Probe.answers(States.ordinary())));
    }

    // ---- promise 17

    /** "NONE: it is empty" */
    private static void ofPocketOfAnEmptyCell() {
        IndentRules x = Due.lines(2);
        x.pocket(0, 0, 3);
        x.store(0, 1, 0);
        cellIs("ahead of it", x, 0, 0, NONE, NONE, NONE);
        cellIs("line 0, AT 0 is not empty", x, 0, 1, 0, 0, 1);
        cellIs("behind it", x, 0, 2, NONE, NONE, NONE);
    }

    // ---- promise 18

    private static void manyOfTheEmpty() {
        manyIs("new", States.empty(), 0, 0, 0, 0, 0, 0);
        manyIs("all gone", States.emptied(), 0, 0, 0, 0, 0, 0);
        manyIs("a line without tokens", Due.lines(0), 1, 0, 0, 0, 0, 0);
    }

    private static void manyOfTheFull() {
        manyIs("openers", States.full(), 20, 180, 180, 0, 20, 180);
        IndentRules x = new IndentRules();
        for (int l = 0; l < 20; l++) {
            x.put(l, 244435353);
        }
        manyIs("open, closed and stray", x, 20, 80, 40, 60, 0, 180);
    }

    /** "3 STRAY CLOSERS" */
    private static void manyStrays() {
        IndentRules x = new IndentRules();
        for (int l = 0; l < 20; l++) {
            x.put(l, 353535353);
        }
        manyIs("the most", x, 20, 0, 0, 180, 0, 180);
    }

    /** "4 LINES that were SEEN" */
    private static void manySeenWithoutTokens() {
        IndentRules x = Due.lines(0, 8, 0);
        x.see(0, 0);
        Due.due("without tokens", x.many(4), 1);
        x.see(1, 0);
        x.see(2, 200);
        Due.due("all", x.many(4), 3);
        x.see(0, NONE);
        Due.due("one less", x.many(4), 2);
    }

    /** "An object is used for at most 512 calls after it has been made": the 512th answers still. */
    private static void allCallsOfAnObject() {
        IndentRules x = new IndentRules();
        for (int call = 0; call < 510; call++) {
            if (call % 2 == 0) {
                x.put(0, 242);
            } else {
                x.take(0);
            }
        }
        Due.due("the 511th", x.put(0, 242), 0);
        Due.due("the 512th", x.many(1), 3);
        IndentRules y = States.full();
        for (int call = 61; call < 511; call++) {
            y.guess(call % 5);
        }
        Due.due("the 512th, of a full one", y.follow(), 19);
    }
}
