/** Promises 6 to 8: ofLine, opener, unlike. */
public final class ColumnsTest {
    private static final int NONE = IndentRules.NONE;

    public static void main(String[] args) {
        columnsBehindWhatWasLast();
        columnsInBraces();
        columnsInBrackets();
        closersOfAnotherSort();
        notesHideWhatIsBehindThem();
        widths();
        depthsAndStrays();
        ofLineRefuses();
        openersAreTold();
        openersChangeWithTheStyle();
        openerRefuses();
        unlikeFindsTheFirst();
        unlikeRefuses();
        Due.finish();
    }

    // ---- promise 6

    private static void columnsBehindWhatWasLast() {
        Due.ofLines("each token as LAST", Due.lines(1, 2), 1, 0, 8);
        Due.ofLines("LAST is a stray brace's closer", Due.lines(3, 1), 1, 0, 0);
        Due.ofLines("LAST is a stray bracket's closer", Due.lines(5, 1), 1, 0, 8);
        Due.ofLines("LAST is a joiner", Due.lines(6, 1), 1, 0, 8);
        Due.ofLines("LAST is a keyword", Due.lines(7, 1), 1, 0, 4);
        Due.ofLines("LAST is an end", Due.lines(8, 1), 1, 0, 0);
        Due.ofLines("there was none", Due.lines(0, 9, 1), 1, 0, 0, 0);
        Due.ofLines("a note is not LAST", Due.lines(19, 0, 9, 1), 1, 0, 0, 8, 8);
        Due.ofLines("a stray closer goes on too", Due.lines(1, 3), 1, 0, 8);
        Due.ofLines("a brace goes on too", Due.lines(7, 2, 1), 1, 0, 4, 8);
        Due.ofLines("closed on its line", Due.lines(145, 1), 1, 0, 8);
    }

    private static void columnsInBraces() {
        IndentRules x = Due.lines(12, 18, 1, 68, 72, 18, 3, 3, 18);
        Due.ofLines("braces", x, 1, 0, 4, 4, 12, 4, 8, 4, 0, 0);
        x.style(3, 1);
        Due.ofLines("braces, OUT", x, 1, 0, 4, 4, 12, 4, 8, 8, 4, 0);
        Due.ofLines("two braces of one line have one BASE", Due.lines(22, 8, 3, 3), 1, 0, 4, 0, 0);
        Due.ofLines("BASE is the line's column", Due.lines(1, 12, 18, 3), 1, 0, 8, 12, 8);
        Due.ofLines("a brace's closer with a keyword LAST", Due.lines(2, 7, 3), 1, 0, 4, 0);
    }

    private static void columnsInBrackets() {
        IndentRules x = Due.lines(14, 1, 61, 58);
        Due.ofLines("nothing follows", x, 1, 0, 8, 8, 0);
        IndentRules y = Due.lines(141, 61, 0, 58, 1);
        Due.ofLines("aligned", y, 1, 0, 4, 0, 3, 0);
        y.style(2, 0);
        Due.ofLines("ALIGN is 0", y, 1, 0, 8, 0, 0, 0);
        IndentRules z = Due.lines(2, 7441, 1, 5, 5, 1);
        Due.ofLines("bracket in bracket in brace", z, 1, 0, 4, 8, 7, 6, 12);
        Due.ofLines("a brace in a bracket", Due.lines(142, 18, 3, 5), 1, 0, 4, 0, 3);
        Due.ofLines("a keyword LAST does not count in a bracket", Due.lines(147, 1), 1, 0, 4);
        Due.ofLines("a closer follows the bracket", Due.lines(43, 1, 5), 1, 0, 1, 0);
    }

    private static void closersOfAnotherSort() {
        Due.ofLines("brace's closer, bracket on top", Due.lines(41, 3, 5), 1, 0, 1, 0);
        Due.ofLines("the same, not aligned", Due.lines(4, 3, 5), 1, 0, 8, 0);
        Due.ofLines("bracket's closer, brace on top", Due.lines(2, 5, 3), 1, 0, 4, 0);
        Due.ofLines("bracket's closer, brace on top, hangs", Due.lines(21, 5), 1, 0, 12);
        Due.ofLines("they are stray", Due.lines(41, 3, 5), 4, 0, 1, 0);
        Due.ofLines("they are stray", Due.lines(2, 5, 3), 4, 0, 1, 0);
    }

    private static void notesHideWhatIsBehindThem() {
        IndentRules x = Due.lines(492, 1, 5, 8);
        Due.ofLines("behind a note", x, 0, 492, 1, 5, 8);
        Due.ofLines("behind a note", x, 1, 0, 8, 0, 8);
        Due.ofLines("width counts", x, 2, 6, 11, 1, 9);
        Due.due("one opener", x.many(1), 1);
        IndentRules y = Due.lines(8913, 1);
        Due.ofLines("LAST is ahead of the note", y, 1, 0, 0);
        Due.ofLines("no stray behind a note", y, 4, 0, 0);
        Due.ofLines("a note first", Due.lines(2, 93, 3), 1, 0, 4, 0);
        Due.ofLines("a note first hides its closer", Due.lines(2, 93, 3), 3, 0, 1, 1);
        Due.ofLines("a bracket ahead of a note and a word", Due.lines(491, 1), 1, 0, 8);
        Due.ofLines("a word, then a note", Due.lines(419, 1), 1, 0, 1);
        Due.ofLines("two notes", Due.lines(9929, 8), 1, 0, 0);
        Due.due("tokens behind a note are told", y.many(5), 5);
    }

    private static void widths() {
        int[] wide = {3, 1, 1, 1, 1, 1, 2, 1, 4};
        for (int token = 1; token <= 9; token++) {
            Due.due("width of " + token, Due.lines(token).ofLine(0, 2), wide[token - 1]);
        }
        Due.due("width of all", Due.lines(123456789).ofLine(0, 2), 15);
        Due.ofLines("with their columns", Due.lines(1, 17, 0), 2, 3, 13, 0);
    }

    private static void depthsAndStrays() {
        IndentRules x = Due.lines(24, 0, 53, 3535, 222, 9, 333);
        Due.ofLines("open as it begins", x, 3, 0, 2, 2, 0, 0, 3, 3);
        Due.ofLines("stray", x, 4, 0, 0, 0, 4, 0, 0, 0);
        Due.ofLines("seen of none", x, 5, NONE, NONE, NONE, NONE, NONE, NONE, NONE);
        x.see(1, 200);
        x.see(6, 0);
        Due.ofLines("seen of two", x, 5, NONE, 200, NONE, NONE, NONE, NONE, 0);
    }

    private static void ofLineRefuses() {
        IndentRules x = Due.lines(1);
        Due.due("ofLine(1, 0)", x.ofLine(1, 0), IndentRules.UNKNOWN);
        Due.due("ofLine(-1, 0)", x.ofLine(-1, 0), IndentRules.UNKNOWN);
        Due.due("UNKNOWN ahead of OUTSIDE", x.ofLine(1, 6), IndentRules.UNKNOWN);
        Due.due("ofLine(0, 6)", x.ofLine(0, 6), IndentRules.OUTSIDE);
        Due.due("ofLine(0, -1)", x.ofLine(0, -1), IndentRules.OUTSIDE);
    }

    // ---- promise 7

    private static void openersAreTold() {
        IndentRules x = Due.lines(142, 4, 5, 17435, 35);
        Due.ofLines("columns", x, 1, 0, 4, 4, 12, 0);
        Due.ofOpener("the first", x, 0, 0, 1, 3, 0, 3, 4);
        Due.ofOpener("the brace", x, 1, 0, 2, 4, 0, 1, 4);
        Due.ofOpener("bracket at a line's end", x, 2, 1, 0, 4, 4, 2, 2);
        Due.ofOpener("one behind a keyword", x, 3, 3, 2, 17, 12, 3, 3);
        Due.due("four openers", x.opener(4, 0), IndentRules.UNKNOWN);
        IndentRules y = Due.lines(2, 0, 2);
        Due.ofOpener("no partner", y, 0, 0, 0, 0, 0, 1, NONE);
        Due.ofOpener("no partner", y, 1, 2, 0, 4, 4, 1, NONE);
    }

    private static void openersChangeWithTheStyle() {
        IndentRules x = Due.lines(2, 141, 4);
        Due.ofOpener("aligned", x, 1, 1, 1, 7, 4, 3, NONE);
        Due.ofOpener("inside", x, 2, 2, 0, 8, 8, 2, NONE);
        x.style(2, 0);
        x.style(0, 2);
        Due.ofOpener("not aligned", x, 1, 1, 1, 5, 2, 2, NONE);
        Due.ofOpener("inside", x, 2, 2, 0, 10, 10, 2, NONE);
        x.put(0, 4);
        Due.ofOpener("numbers change", x, 0, 0, 0, 0, 0, 2, NONE);
        Due.ofOpener("numbers change", x, 1, 1, 0, 8, 8, 1, NONE);
        x.put(4, 5);
        Due.due("a partner comes", x.opener(3, 5), 4);
        x.take(4);
        Due.due("a partner goes", x.opener(3, 5), NONE);
    }

    private static void openerRefuses() {
        IndentRules x = Due.lines(2);
        Due.due("opener(1, 0)", x.opener(1, 0), IndentRules.UNKNOWN);
        Due.due("opener(-1, 0)", x.opener(-1, 0), IndentRules.UNKNOWN);
        Due.due("UNKNOWN ahead of OUTSIDE", x.opener(1, 6), IndentRules.UNKNOWN);
        Due.due("opener(0, 6)", x.opener(0, 6), IndentRules.OUTSIDE);
        Due.due("opener(0, -1)", x.opener(0, -1), IndentRules.OUTSIDE);
        IndentRules full = new IndentRules();
        for (int l = 0; l < 20; l++) {
            full.put(l, 222222222);
        }
        Due.due("the last of the most", full.opener(179, 2), 84);
        Due.due("no more than the most", full.opener(180, 2), IndentRules.UNKNOWN);
        Due.due("all are open", full.ofLine(19, 3), 171);
    }

    // ---- promise 8

    private static void unlikeFindsTheFirst() {
        IndentRules x = Due.lines(2, 18, 0, 18, 3);
        Due.due("nothing was seen", x.unlike(0), NONE);
        x.see(0, 0);
        x.see(1, 4);
        Due.due("all alike", x.unlike(0), NONE);
        x.see(2, 7);
        Due.due("a line without tokens", x.unlike(0), NONE);
        x.see(3, 5);
        x.see(4, 1);
        Due.due("from 0", x.unlike(0), 3);
        Due.due("from 3", x.unlike(3), 3);
        Due.due("from 4", x.unlike(4), 4);
        x.style(0, 5);
        Due.due("by another style", x.unlike(0), 1);
    }

    private static void unlikeRefuses() {
        IndentRules x = Due.lines(1);
        Due.due("unlike(1)", x.unlike(1), IndentRules.UNKNOWN);
        Due.due("unlike(-1)", x.unlike(-1), IndentRules.UNKNOWN);
    }
}
