/** Promises 9 to 13: see, fits, score, guess, follow. */
public final class StylesTest {
    private static final int NONE = IndentRules.NONE;

    public static void main(String[] args) {
        seeTellsWhatItWas();
        seeRefuses();
        fitsCountsLines();
        scoreIsWeighed();
        scoreHalvesTwelveTimesAtMost();
        stylesOutsideAreRefused();
        guessIsTheFirstOfTheBest();
        guessRefuses();
        followTakesTheGuess();
        followRefuses();
        Due.finish();
    }

    private static int bits(double score) {
        return Float.floatToIntBits((float) score);
    }

    private static void see(IndentRules x, int... seen) {
        for (int l = 0; l < seen.length; l++) {
            x.see(l, seen[l]);
        }
    }

    // ---- promise 9

    private static void seeTellsWhatItWas() {
        IndentRules x = Due.lines(1, 0);
        Due.due("see(0, 0)", x.see(0, 0), NONE);
        Due.due("see(0, 200)", x.see(0, 200), 0);
        Due.due("see(0, NONE)", x.see(0, NONE), 200);
        Due.due("see(0, NONE) again", x.see(0, NONE), NONE);
        Due.due("see(1, 3)", x.see(1, 3), NONE);
        Due.ofLines("seen", x, 5, NONE, 3);
    }

    private static void seeRefuses() {
        IndentRules x = Due.lines(1);
        x.see(0, 9);
        Due.due("see(1, 0)", x.see(1, 0), IndentRules.UNKNOWN);
        Due.due("see(-1, 0)", x.see(-1, 0), IndentRules.UNKNOWN);
        Due.due("UNKNOWN ahead of OUTSIDE", x.see(1, 201), IndentRules.UNKNOWN);
        for (int v : new int[] {201, -1, -8, -10, Integer.MAX_VALUE, Integer.MIN_VALUE}) {
            Due.due("see(0, " + v + ")", x.see(0, v), IndentRules.OUTSIDE);
        }
        Due.due("refused changes nothing", x.ofLine(0, 5), 9);
    }

    // ---- promise 10

    private static void fitsCountsLines() {
        IndentRules x = Due.lines(2, 18, 0, 1, 8, 3, 18);
        see(x, 0, 2, 0, 2, 5, 0, NONE);
        Due.due("fits(2, 3, 0, 0)", x.fits(2, 3, 0, 0), 5);
        Due.due("fits(2, 4, 1, 0)", x.fits(2, 4, 1, 0), 4);
        Due.due("fits(2, 3, 0, 1)", x.fits(2, 3, 0, 1), 4);
        Due.due("fits(1, 4, 0, 0)", x.fits(1, 4, 0, 0), 3);
        Due.due("the style stays", x.ofLine(1, 1), 4);
        IndentRules y = Due.lines(141, 8);
        see(y, NONE, 4);
        Due.due("ALIGN 1", y.fits(1, 1, 1, 0), 1);
        Due.due("ALIGN 0", y.fits(1, 1, 0, 0), 0);
        Due.due("a hang of 4", y.fits(1, 4, 0, 0), 1);
        Due.due("no lines", new IndentRules().fits(8, 8, 1, 1), 0);
    }

    // ---- promise 11

    private static void scoreIsWeighed() {
        IndentRules x = Due.lines(2, 18, 22, 8, 333, 0);
        see(x, 0, 4, 4, 8, 8, 0);
        Due.due("all of it", x.score(4, 8, 1, 0, 0), bits(1 + 0.5 + 0.5 + 0.125 + 0));
        Due.due("its thousands", x.score(4, 8, 1, 0, 1), 2125);
        Due.due("the first alone", x.score(5, 8, 1, 0, 0), bits(1));
        Due.due("its thousands", x.score(5, 8, 1, 0, 1), 1000);
        Due.due("the closer goes out", x.score(4, 8, 1, 1, 0), bits(2.25));
        Due.due("its thousands", x.score(4, 8, 1, 1, 1), 2250);
        x.see(0, NONE);
        Due.due("nothing fits", x.score(5, 8, 1, 0, 0), 0);
        Due.due("nothing fits", x.score(5, 8, 1, 0, 1), 0);
    }

    private static void scoreHalvesTwelveTimesAtMost() {
        for (int open = 0; open <= 18; open++) {
            IndentRules x = new IndentRules();
            x.put(0, braces(Math.min(open, 9)));
            x.put(1, braces(Math.max(open - 9, 0)));
            x.put(2, 8);
            x.see(2, open == 0 ? 0 : open <= 9 ? 1 : 2);
            double weight = 1.0 / (1 << Math.min(open, 12));
            Due.due("weight below " + open, x.score(1, 1, 0, 0, 0), bits(weight));
            Due.due("thousands below " + open, x.score(1, 1, 0, 0, 1), (int) (1000 * weight));
        }
        IndentRules y = new IndentRules();
        for (int l = 0; l < 20; l++) {
            y.put(l, 8);
            y.see(l, 0);
        }
        Due.due("the greatest score", y.score(1, 1, 0, 0, 0), bits(20));
        Due.due("its thousands", y.score(1, 1, 0, 0, 1), 20000);
    }

    private static int braces(int n) {
        int told = 0;
        for (int i = 0; i < n; i++) {
            told = told * 10 + 2;
        }
        return told;
    }

    private static void stylesOutsideAreRefused() {
        IndentRules x = Due.lines(1);
        int[][] bad = {{0, 1, 0, 0}, {9, 1, 0, 0}, {1, 0, 0, 0}, {1, 9, 0, 0}, {1, 1, -1, 0}, {1, 1, 2, 0}, {1, 1, 0, -1},
            {1, 1, 0, 2}};
        for (int[] s : bad) {
            String name = s[0] + ", " + s[1] + ", " + s[2] + ", " + s[3];
            Due.due("fits(" + name + ")", x.fits(s[0], s[1], s[2], s[3]), IndentRules.OUTSIDE);
            Due.due("score(" + name + ", 0)", x.score(s[0], s[1], s[2], s[3], 0), IndentRules.OUTSIDE);
        }
        Due.due("score of what 2", x.score(1, 1, 0, 0, 2), IndentRules.OUTSIDE);
        Due.due("score of what -1", x.score(1, 1, 0, 0, -1), IndentRules.OUTSIDE);
    }

    // ---- promise 12

    private static void guessIsTheFirstOfTheBest() {
        IndentRules x = Due.lines(2, 18, 141, 8, 1, 58, 3);
        see(x, 0, 3, 3, 7, 7, 6, 3);
        guessIs("all four", x, 3, 1, 1, 1, 1 + 0.5 + 0.5 + 0.25 + 0.25 + 0.25 + 0.5);
        see(x, 0, 3, 3, 9, 9, 3, 0);
        guessIs("not aligned", x, 3, 6, 0, 0, 3.25);
        IndentRules y = Due.lines(8);
        y.see(0, 0);
        guessIs("all fit", y, 1, 1, 0, 0, 1);
        y.see(0, 9);
        guessIs("none fits", y, 1, 1, 0, 0, 0);
        IndentRules z = Due.lines(7, 8, 1, 8);
        see(z, NONE, 5, NONE, 7);
        guessIs("STEP and HANG", z, 5, 7, 0, 0, 2);
        IndentRules w = Due.lines(2, 3);
        see(w, NONE, 8);
        guessIs("the last STEP", w, 8, 1, 0, 1, 0.5);
        IndentRules u = Due.lines(1, 8);
        see(u, NONE, 8);
        guessIs("the last HANG", u, 1, 8, 0, 0, 1);
        Due.due("the style stays", w.style(0, 4), 4);
        IndentRules v = Due.lines(2, 8, 3, 22222, 8);
        see(v, NONE, 2, NONE, NONE, 3);
        guessIs("a weighty one ahead of a light one", v, 2, 1, 0, 0, 0.5);
    }

    private static void guessIs(String name, IndentRules x, int step, int hang, int align, int out, double score) {
        Due.due(name + ": STEP", x.guess(0), step);
        Due.due(name + ": HANG", x.guess(1), hang);
        Due.due(name + ": ALIGN", x.guess(2), align);
        Due.due(name + ": OUT", x.guess(3), out);
        Due.due(name + ": SCORE", x.guess(4), bits(score));
    }

    private static void guessRefuses() {
        IndentRules x = Due.lines(1, 0);
        Due.due("nothing was seen", x.guess(0), IndentRules.STATE);
        x.see(1, 0);
        Due.due("seen, but without tokens", x.guess(0), IndentRules.STATE);
        Due.due("OUTSIDE ahead of STATE", x.guess(5), IndentRules.OUTSIDE);
        Due.due("OUTSIDE ahead of STATE", x.guess(-1), IndentRules.OUTSIDE);
        x.see(0, 0);
        Due.due("guess(5)", x.guess(5), IndentRules.OUTSIDE);
        Due.due("guess(-1)", x.guess(-1), IndentRules.OUTSIDE);
        Due.due("guess(0)", x.guess(0), 1);
        x.change(0, 0);
        Due.due("the tokens are gone", x.guess(4), IndentRules.STATE);
    }

    // ---- promise 13

    private static void followTakesTheGuess() {
        IndentRules x = Due.lines(2, 18, 141, 8, 1, 58, 3, 0);
        see(x, 0, 3, 3, 7, 7, 6, 3);
        Due.due("all but the first move", x.follow(), 6);
        Due.ofLines("as they were seen", x, 1, 0, 3, 3, 7, 7, 6, 3, 0);
        Due.due("again", x.follow(), 0);
        Due.due("STEP", x.style(0, 3), 3);
        Due.due("HANG", x.style(1, 1), 1);
        Due.due("ALIGN", x.style(2, 1), 1);
        Due.due("OUT", x.style(3, 1), 1);
    }

    private static void followRefuses() {
        IndentRules x = Due.lines(2, 0, 8);
        Due.due("nothing was seen", x.follow(), IndentRules.STATE);
        x.see(1, 0);
        Due.due("seen, but without tokens", x.follow(), IndentRules.STATE);
        Due.ofLines("the style stays", x, 1, 0, 0, 4);
    }
}
