/** Promises 1 to 5: a new object, put, change, take, style. */
public final class LinesTest {
    public static void main(String[] args) {
        newObject();
        putCountsOthersThatMove();
        putRefuses();
        putIsNotSeen();
        changeCountsOthersThatMove();
        changeRefuses();
        takeCountsOthersThatMove();
        takeRefuses();
        styleTellsWhatItWas();
        styleRefuses();
        styleMovesColumns();
        Due.finish();
    }

    // ---- promise 1

    private static void newObject() {
        IndentRules x = new IndentRules();
        for (int what = 0; what <= 5; what++) {
            Due.due("new: many(" + what + ")", x.many(what), 0);
        }
        for (int p = 0; p < 3; p++) {
            Due.due("new: ofPocket(" + p + ", 0, 0)", x.ofPocket(p, 0, 0), IndentRules.STATE);
            Due.due("new: copy(" + p + ", 0)", x.copy(p, 0), IndentRules.STATE);
        }
        Due.due("new: STEP", x.style(0, 4), 4);
        Due.due("new: HANG", x.style(1, 8), 8);
        Due.due("new: ALIGN", x.style(2, 1), 1);
        Due.due("new: OUT", x.style(3, 0), 0);
        Due.due("one object's line", x.put(0, 1), 0);
        Due.due("is not another's", new IndentRules().many(0), 0);
    }

    // ---- promise 2

    private static void putCountsOthersThatMove() {
        IndentRules x = Due.lines(18, 18);
        Due.ofLines("two ends", x, 1, 0, 0);
        Due.due("a brace ahead of two lines", x.put(0, 2), 2);
        Due.ofLines("behind a brace", x, 1, 0, 4, 4);
        Due.due("a line without tokens", x.put(1, 0), 0);
        Due.due("a line without tokens does not move", x.put(0, 2), 3);
        Due.ofLines("behind two braces", x, 1, 0, 4, 0, 8, 8);
        Due.due("the last one moves none", x.put(5, 1), 0);
        IndentRules y = Due.lines(2, 18, 3);
        Due.due("a word in the middle", y.put(1, 1), 1);
        Due.ofLines("the word's next hangs", y, 0, 2, 1, 18, 3);
        Due.ofLines("the word's next hangs", y, 1, 0, 4, 12, 0);
        IndentRules z = Due.lines(1, 18, 2);
        Due.due("the new line itself is not counted", z.put(1, 7), 1);
        Due.ofLines("a keyword put in", z, 1, 0, 8, 4, 0);
        Due.due("the most tokens", z.put(4, 999999999), 0);
        Due.due("the most tokens are told", z.ofLine(4, 0), 999999999);
    }

    private static void putRefuses() {
        IndentRules x = new IndentRules();
        Due.due("put behind the end", x.put(1, 1), IndentRules.UNKNOWN);
        Due.due("put ahead of all", x.put(-1, 1), IndentRules.UNKNOWN);
        Due.due("UNKNOWN ahead of OUTSIDE", x.put(1, 10), IndentRules.UNKNOWN);
        int[] bad = {-1, 10, 101, 905, 990, 100000000, 1000000000, 1111111111, Integer.MAX_VALUE, Integer.MIN_VALUE};
        for (int tokens : bad) {
            Due.due("put(0, " + tokens + ")", x.put(0, tokens), IndentRules.OUTSIDE);
        }
        Due.due("no refused line came", x.many(0), 0);
        for (int l = 0; l < 20; l++) {
            Due.due("line " + l, x.put(l, 8), 0);
        }
        Due.due("FULL at the end", x.put(20, 2), IndentRules.FULL);
        Due.due("FULL at the start", x.put(0, 2), IndentRules.FULL);
        Due.due("OUTSIDE ahead of FULL", x.put(0, 10), IndentRules.OUTSIDE);
        Due.due("UNKNOWN ahead of FULL", x.put(21, 1), IndentRules.UNKNOWN);
        Due.due("FULL changes nothing", x.many(1), 0);
        Due.due("still 20", x.many(0), 20);
        x.take(7);
        Due.due("room again", x.put(19, 2), 0);
        Due.due("20 again", x.many(0), 20);
    }

    private static void putIsNotSeen() {
        IndentRules x = Due.lines(1, 18);
        x.see(1, 8);
        x.take(1);
        x.put(1, 18);
        Due.due("a new line was not seen", x.ofLine(1, 5), IndentRules.NONE);
        x.see(0, 3);
        x.put(0, 7);
        Due.ofLines("seen goes with its line", x, 5, IndentRules.NONE, 3, IndentRules.NONE);
    }

    // ---- promise 3

    private static void changeCountsOthersThatMove() {
        IndentRules x = Due.lines(2, 18, 18, 3);
        x.see(0, 5);
        Due.due("the brace is no more", x.change(0, 8), 2);
        Due.ofLines("the brace is no more", x, 1, 0, 0, 0, 0);
        Due.due("SEEN stays", x.ofLine(0, 5), 5);
        Due.due("tokens are others", x.ofLine(0, 0), 8);
        IndentRules y = Due.lines(1, 18);
        Due.due("itself is not counted", y.change(1, 0), 0);
        Due.ofLines("no tokens", y, 1, 0, 0);
        Due.due("to the same", y.change(0, 1), 0);
        IndentRules z = Due.lines(2222, 3, 18);
        Due.due("fewer tokens", z.change(0, 2), 1);
        Due.ofLines("fewer tokens", z, 1, 0, 0, 0);
        Due.due("fewer openers", z.many(1), 1);
    }

    private static void changeRefuses() {
        IndentRules x = Due.lines(2, 18);
        Due.due("change(2, 1)", x.change(2, 1), IndentRules.UNKNOWN);
        Due.due("change(-1, 1)", x.change(-1, 1), IndentRules.UNKNOWN);
        Due.due("UNKNOWN ahead of OUTSIDE", x.change(2, 10), IndentRules.UNKNOWN);
        Due.due("change(0, 10)", x.change(0, 10), IndentRules.OUTSIDE);
        Due.due("change(0, -2)", x.change(0, -2), IndentRules.OUTSIDE);
        Due.due("change(0, 1000000000)", x.change(0, 1000000000), IndentRules.OUTSIDE);
        Due.ofLines("refused changes nothing", x, 0, 2, 18);
        Due.ofLines("refused changes nothing", x, 1, 0, 4);
    }

    // ---- promise 4

    private static void takeCountsOthersThatMove() {
        IndentRules x = Due.lines(2, 18, 3, 8);
        x.see(1, 7);
        Due.due("the brace goes", x.take(0), 1);
        Due.ofLines("the others have other numbers", x, 0, 18, 3, 8);
        Due.ofLines("the others' columns", x, 1, 0, 0, 0);
        Due.ofLines("SEEN goes with its line", x, 5, 7, IndentRules.NONE, IndentRules.NONE);
        Due.due("the last goes", x.take(2), 0);
        Due.due("two are left", x.many(0), 2);
        IndentRules y = Due.lines(2, 2, 18, 18);
        Due.due("from the middle", y.take(1), 2);
        Due.ofLines("from the middle", y, 1, 0, 4, 4);
        IndentRules z = Due.lines(1, 2, 3);
        z.take(0);
        z.put(2, 4);
        Due.ofLines("a line behind it then is a line of its own", z, 0, 2, 3, 4);
    }

    private static void takeRefuses() {
        IndentRules x = Due.lines(1);
        Due.due("take(1)", x.take(1), IndentRules.UNKNOWN);
        Due.due("take(-1)", x.take(-1), IndentRules.UNKNOWN);
        Due.due("still there", x.many(0), 1);
        Due.due("take(0)", x.take(0), 0);
        Due.due("take(0) of none", x.take(0), IndentRules.UNKNOWN);
    }

    // ---- promise 5

    private static void styleTellsWhatItWas() {
        IndentRules x = new IndentRules();
        Due.due("style(0, 1)", x.style(0, 1), 4);
        Due.due("style(0, 8)", x.style(0, 8), 1);
        Due.due("style(1, 1)", x.style(1, 1), 8);
        Due.due("style(1, 8)", x.style(1, 8), 1);
        Due.due("style(2, 0)", x.style(2, 0), 1);
        Due.due("style(2, 1)", x.style(2, 1), 0);
        Due.due("style(3, 1)", x.style(3, 1), 0);
        Due.due("style(3, 0)", x.style(3, 0), 1);
        Due.due("STEP is as it was put", x.style(0, 8), 8);
    }

    private static void styleRefuses() {
        IndentRules x = new IndentRules();
        Due.due("style(4, 1)", x.style(4, 1), IndentRules.UNKNOWN);
        Due.due("style(-1, 1)", x.style(-1, 1), IndentRules.UNKNOWN);
        Due.due("UNKNOWN ahead of OUTSIDE", x.style(4, 99), IndentRules.UNKNOWN);
        for (int k = 0; k < 4; k++) {
            int most = k < 2 ? 8 : 1;
            int least = k < 2 ? 1 : 0;
            Due.due("style(" + k + ", too much)", x.style(k, most + 1), IndentRules.OUTSIDE);
            Due.due("style(" + k + ", too little)", x.style(k, least - 1), IndentRules.OUTSIDE);
        }
        Due.due("refused changes nothing", x.style(0, 4), 4);
        Due.due("refused changes nothing", x.style(2, 1), 1);
    }

    private static void styleMovesColumns() {
        IndentRules x = Due.lines(2, 18, 1, 8, 3);
        Due.ofLines("4, 8, 1, 0", x, 1, 0, 4, 4, 12, 0);
        x.style(0, 2);
        Due.ofLines("2, 8, 1, 0", x, 1, 0, 2, 2, 10, 0);
        x.style(1, 3);
        Due.ofLines("2, 3, 1, 0", x, 1, 0, 2, 2, 5, 0);
        x.style(3, 1);
        Due.ofLines("2, 3, 1, 1", x, 1, 0, 2, 2, 5, 2);
        IndentRules y = Due.lines(141, 8);
        Due.ofLines("aligned", y, 1, 0, 4);
        y.style(2, 0);
        Due.ofLines("not aligned", y, 1, 0, 8);
    }
}
