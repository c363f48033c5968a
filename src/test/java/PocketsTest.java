/** Promises 14 to 18: pocket, store, copy, ofPocket, many. */
public final class PocketsTest {
    private static final int NONE = IndentRules.NONE;

    public static void main(String[] args) {
        pocketIsEmptyAndNew();
        pocketRefuses();
        storeByKind();
        storeRefusesInOrder();
        cellsKeepWhatWas();
        copyIsApart();
        copyRefuses();
        ofPocketRefuses();
        manyCounts();
        manyOfTheFirstAndTheGone();
        manyOfTheMost();
        Due.finish();
    }

    /** Opener 0 a brace, 1 a bracket that is not aligned, 2 an aligned one. */
    private static IndentRules threeKinds() {
        return Due.lines(12, 14, 141);
    }

    private static void cell(String name, IndentRules x, int p, int cell, int line, int at, int kind) {
        Due.due(name + ": LINE", x.ofPocket(p, cell, 0), line);
        Due.due(name + ": AT", x.ofPocket(p, cell, 1), at);
        Due.due(name + ": KIND", x.ofPocket(p, cell, 2), kind);
    }

    // ---- promise 14

    private static void pocketIsEmptyAndNew() {
        IndentRules x = threeKinds();
        for (int p = 0; p < 3; p++) {
            Due.due("pocket of 6", x.pocket(p, p, 6), 1);
            for (int c = 0; c < 6; c++) {
                cell("empty", x, p, c, NONE, NONE, NONE);
            }
            Due.due("no seventh", x.ofPocket(p, 6, 0), IndentRules.INDEX);
        }
        x.store(0, 0, 0);
        Due.due("a new row", x.pocket(0, 3, 1), 1);
        cell("a new row is empty", x, 0, 0, NONE, NONE, NONE);
        Due.due("a new row has its own length", x.ofPocket(0, 1, 0), IndentRules.INDEX);
        Due.due("a new row has its own kind", x.store(0, 0, 1), IndentRules.KIND);
    }

    private static void pocketRefuses() {
        IndentRules x = threeKinds();
        Due.due("pocket(3, 0, 1)", x.pocket(3, 0, 1), IndentRules.UNKNOWN);
        Due.due("pocket(-1, 0, 1)", x.pocket(-1, 0, 1), IndentRules.UNKNOWN);
        Due.due("UNKNOWN ahead of OUTSIDE", x.pocket(3, 4, 0), IndentRules.UNKNOWN);
        Due.due("still nothing", x.ofPocket(0, 0, 0), IndentRules.STATE);
        x.pocket(0, 1, 1);
        x.store(0, 0, 0);
        Due.due("pocket(0, 4, 1)", x.pocket(0, 4, 1), IndentRules.OUTSIDE);
        Due.due("pocket(0, -1, 1)", x.pocket(0, -1, 1), IndentRules.OUTSIDE);
        Due.due("pocket(0, 0, 0)", x.pocket(0, 0, 0), IndentRules.OUTSIDE);
        Due.due("pocket(0, 0, 7)", x.pocket(0, 0, 7), IndentRules.OUTSIDE);
        Due.due("pocket(0, 0, MIN)", x.pocket(0, 0, Integer.MIN_VALUE), IndentRules.OUTSIDE);
        cell("refused changes nothing", x, 0, 0, 0, 3, 1);
    }

    // ---- promise 15

    private static void storeByKind() {
        int kind = IndentRules.KIND;
        int[][] want = {{1, 1, 1}, {1, kind, kind}, {kind, 1, 1}, {kind, kind, 1}};
        for (int k = 0; k <= 3; k++) {
            for (int c = 0; c < 3; c++) {
                IndentRules x = threeKinds();
                x.pocket(1, k, 2);
                Due.due("opener " + c + " into kind " + k, x.store(1, 1, c), want[k][c]);
                Due.due("what lies there", x.ofPocket(1, 1, 2), want[k][c] == 1 ? c + 1 : NONE);
                Due.due("the other cell", x.ofPocket(1, 0, 2), NONE);
            }
        }
    }

    private static void storeRefusesInOrder() {
        IndentRules x = threeKinds();
        Due.due("UNKNOWN pocket", x.store(3, 0, 0), IndentRules.UNKNOWN);
        Due.due("UNKNOWN pocket", x.store(-1, 0, 0), IndentRules.UNKNOWN);
        Due.due("UNKNOWN opener ahead of STATE", x.store(0, 0, 3), IndentRules.UNKNOWN);
        Due.due("STATE ahead of INDEX", x.store(0, 9, 0), IndentRules.STATE);
        x.pocket(0, 2, 2);
        Due.due("UNKNOWN opener ahead of INDEX", x.store(0, 2, 3), IndentRules.UNKNOWN);
        Due.due("UNKNOWN opener", x.store(0, 0, -1), IndentRules.UNKNOWN);
        Due.due("INDEX ahead of KIND", x.store(0, 2, 0), IndentRules.INDEX);
        Due.due("INDEX", x.store(0, -1, 1), IndentRules.INDEX);
        Due.due("INDEX", x.store(0, 2, 1), IndentRules.INDEX);
        Due.due("KIND", x.store(0, 0, 0), IndentRules.KIND);
        Due.due("stored", x.store(0, 0, 1), 1);
        Due.due("KIND keeps what lies there", x.store(0, 0, 0), IndentRules.KIND);
        cell("what lies there", x, 0, 0, 1, 7, 2);
        Due.due("stored over it", x.store(0, 0, 2), 1);
        cell("what lies there then", x, 0, 0, 2, 15, 3);
    }

    private static void cellsKeepWhatWas() {
        IndentRules x = threeKinds();
        x.pocket(0, 3, 1);
        x.store(0, 0, 2);
        cell("aligned", x, 0, 0, 2, 15, 3);
        x.style(2, 0);
        x.put(0, 0);
        cell("as it was", x, 0, 0, 2, 15, 3);
        Due.due("now it is not aligned", x.store(0, 0, 2), IndentRules.KIND);
        x.take(3);
        x.take(2);
        x.take(1);
        cell("as it was, though it is gone", x, 0, 0, 2, 15, 3);
    }

    // ---- promise 16

    private static void copyIsApart() {
        IndentRules x = threeKinds();
        x.pocket(0, 2, 3);
        x.store(0, 1, 1);
        x.store(0, 0, 2);
        x.pocket(1, 1, 6);
        x.store(1, 5, 0);
        Due.due("copy(0, 1)", x.copy(0, 1), 1);
        cell("what lay in it", x, 1, 1, 1, 7, 2);
        cell("what lay in its first cell", x, 1, 0, 2, 15, 3);
        cell("an empty cell", x, 1, 2, NONE, NONE, NONE);
        Due.due("its length", x.ofPocket(1, 3, 0), IndentRules.INDEX);
        Due.due("its kind", x.store(1, 0, 0), IndentRules.KIND);
        x.store(1, 1, 2);
        cell("later, in the one", x, 1, 1, 2, 15, 3);
        cell("not in the other", x, 0, 1, 1, 7, 2);
        x.store(0, 2, 2);
        cell("nor the other way", x, 1, 2, NONE, NONE, NONE);
        Due.due("onto itself", x.copy(0, 0), 1);
        cell("is as it was", x, 0, 1, 1, 7, 2);
        Due.due("into one that has nothing", x.copy(0, 2), 1);
        cell("has it too", x, 2, 2, 2, 15, 3);
        x.pocket(0, 0, 1);
        cell("a new row in one leaves the other", x, 2, 1, 1, 7, 2);
    }

    private static void copyRefuses() {
        IndentRules x = threeKinds();
        Due.due("copy(3, 0)", x.copy(3, 0), IndentRules.UNKNOWN);
        Due.due("copy(-1, 0)", x.copy(-1, 0), IndentRules.UNKNOWN);
        Due.due("UNKNOWN ahead of STATE", x.copy(0, 3), IndentRules.UNKNOWN);
        Due.due("UNKNOWN ahead of STATE", x.copy(0, -1), IndentRules.UNKNOWN);
        x.pocket(1, 0, 1);
        x.store(1, 0, 0);
        Due.due("STATE", x.copy(0, 1), IndentRules.STATE);
        cell("refused changes nothing", x, 1, 0, 0, 3, 1);
    }

    // ---- promise 17

    private static void ofPocketRefuses() {
        IndentRules x = threeKinds();
        Due.due("UNKNOWN ahead of OUTSIDE", x.ofPocket(3, 0, 3), IndentRules.UNKNOWN);
        Due.due("UNKNOWN", x.ofPocket(-1, 0, 0), IndentRules.UNKNOWN);
        Due.due("OUTSIDE ahead of STATE", x.ofPocket(0, 0, 3), IndentRules.OUTSIDE);
        Due.due("STATE ahead of INDEX", x.ofPocket(0, 6, 0), IndentRules.STATE);
        x.pocket(0, 0, 2);
        Due.due("OUTSIDE ahead of INDEX", x.ofPocket(0, 2, -1), IndentRules.OUTSIDE);
        Due.due("INDEX", x.ofPocket(0, 2, 0), IndentRules.INDEX);
        Due.due("INDEX", x.ofPocket(0, -1, 0), IndentRules.INDEX);
        Due.due("NONE", x.ofPocket(0, 1, 0), NONE);
    }

    // ---- promise 18

    private static void manyCounts() {
        IndentRules x = Due.lines(124, 0, 535, 2, 9345, 14);
        x.see(1, 3);
        x.see(2, 0);
        int[] want = {6, 4, 2, 1, 2, 13};
        for (int what = 0; what < want.length; what++) {
            Due.due("many(" + what + ")", x.many(what), want[what]);
        }
        x.see(1, NONE);
        Due.due("one is not seen", x.many(4), 1);
        x.take(2);
        Due.due("none is seen", x.many(4), 0);
        Due.due("no stray", x.many(3), 0);
        Due.due("all are open", x.many(2), 4);
        Due.due("many(6)", x.many(6), IndentRules.OUTSIDE);
        Due.due("many(-1)", x.many(-1), IndentRules.OUTSIDE);
    }

    private static void manyOfTheFirstAndTheGone() {
        IndentRules x = Due.lines(35, 2, 35);
        x.see(0, 0);
        x.see(2, 0);
        Due.due("strays of the first line", x.many(3), 3);
        Due.due("the first line was seen", x.many(4), 2);
        x.take(2);
        int[] want = {2, 1, 1, 2, 1, 3};
        for (int what = 0; what < want.length; what++) {
            Due.due("without the last: many(" + what + ")", x.many(what), want[what]);
        }
        Due.due("the gone line does not fit", x.fits(1, 1, 0, 0), 1);
        Due.due("the gone line is not unlike", x.unlike(1), NONE);
        x.take(0);
        Due.due("the gone lines make no guess", x.guess(0), IndentRules.STATE);
        x.take(0);
        for (int what = 0; what < want.length; what++) {
            Due.due("without all: many(" + what + ")", x.many(what), 0);
        }
    }

    private static void manyOfTheMost() {
        IndentRules x = new IndentRules();
        for (int l = 0; l < 20; l++) {
            x.put(l, l % 2 == 0 ? 222222222 : 555555555);
            x.see(l, 200);
        }
        int[] want = {20, 90, 90, 90, 20, 180};
        for (int what = 0; what < want.length; what++) {
            Due.due("the most: many(" + what + ")", x.many(what), want[what]);
        }
        Due.due("the most: unlike", x.unlike(19), 19);
        Due.due("the most: fits", x.fits(8, 8, 1, 1), 0);
        Due.due("the most: guess", x.guess(4), 0);
        Due.due("the most: no opener more", x.opener(90, 0), IndentRules.UNKNOWN);
    }
}
