/**
 * The document's "Terms", part by part: each sentence that names a case (none, nothing on top, at most, too, else)
 * has a test of its own, and stands above it.
 */
public final class TermsTest {
    private static final int NONE = IndentRules.NONE;

    public static void main(String[] args) {
        partOne();
        partTwo();
        partThree();
        partFour();
        Due.finish();
    }

    private static void partOne() {
        twentyLinesAtMost();
        numberedByTheirOrder();
        noTokensToNine();
        firstTokenIsTheHighestDigit();
        widthsOfTokens();
        behindANoteNothingOpens();
        behindANoteNothingCloses();
        behindANoteNothingIsLast();
        behindANoteNothingFollowsABracket();
        behindANoteAllIsToldAndWide();
        notesAtBothEnds();
        settingsAtFirst();
    }

    private static void partTwo() {
        columnWithoutTokens();
        lastWhenThereWasNone();
        lastWithNothingOnTop();
        lastInABrace();
        lastInABracket();
        lastIsOfAllLinesSoFar();
        firstTokenWithNothingOnTop();
        firstTokenInABrace();
        firstTokenInAnAlignedBracket();
        firstTokenInAnotherBracket();
        leastAndMostStepsAndHangs();
        placesOfOpeners();
        baseIsTheLinesColumn();
        alignedByWhatFollows();
        alignedByTheSetting();
        closersTakeWhatIsOnTop();
        strayClosersTakeNothingOff();
        openersAreNumberedInAllLines();
        columnsBeyondWhatCanBeSeen();
        toldByHowAllIsWhenAsked();
    }

    private static void partThree() {
        seenIsNoneAtFirst();
        weightIsHalvedTwelveTimesAtMost();
        scoreOfNothing();
        scoreCountsOnlyWhatWasSeenAndHasTokens();
        scoreIsCutNotRounded();
        greatestScore();
        guessGoesByScoreAhead();
        guessGoesByStepFirst();
        guessGoesByHangThen();
        guessGoesByAlignThen();
        guessGoesByOutLast();
        guessOfTheLastStyle();
    }

    private static void partFour() {
        pocketsHaveNothingAtFirst();
        cellsAreEmptyAtFirst();
        anyKindTakesAll();
        bracesAlone();
        bracketsAndAlignedOnesToo();
        alignedBracketsAlone();
        cellsKeepAnOpenerAsItWas();
    }

    /** Line 1's column for each first token 1 .. 9, below a line of these tokens. */
    private static void firsts(String name, IndentRules below, int... want) {
        for (int first = 1; first <= 9; first++) {
            below.put(1, first);
            Due.due(name + ": first token " + first, below.ofLine(1, 1), want[first - 1]);
            below.take(1);
        }
    }

    /** The column of an END below ahead and each token 1 .. 9 behind it. */
    private static void lasts(String name, int ahead, int... want) {
        for (int last = 1; last <= 9; last++) {
            Due.due(name + ": last token " + last, Due.lines(ahead * 10 + last, 8).ofLine(1, 1), want[last - 1]);
        }
    }

    private static IndentRules styled(int step, int hang, int align, int out, int... tokens) {
        IndentRules x = Due.lines(tokens);
        x.style(0, step);
        x.style(1, hang);
        x.style(2, align);
        x.style(3, out);
        return x;
    }

    private static int repeated(int token, int times) {
        int told = 0;
        for (int i = 0; i < times; i++) {
            told = told * 10 + token;
        }
        return told;
    }

    // ---- part 1

    /** "LINES, 20 at most" */
    private static void twentyLinesAtMost() {
        IndentRules x = new IndentRules();
        for (int l = 0; l < 20; l++) {
            Due.due("line " + l + " comes", x.put(0, 8), 0);
            Due.due("lines", x.many(0), l + 1);
        }
        Due.due("a 21st does not", x.put(0, 8), IndentRules.FULL);
        Due.due("lines", x.many(0), 20);
    }

    /** "numbered from 0 on by their order" */
    private static void numberedByTheirOrder() {
        IndentRules x = Due.lines(1);
        x.put(0, 2);
        x.put(2, 3);
        x.put(1, 4);
        Due.ofLines("in their order", x, 0, 2, 4, 1, 3);
        x.take(0);
        Due.ofLines("the first is gone", x, 0, 4, 1, 3);
        x.take(1);
        Due.ofLines("one between is gone", x, 0, 4, 3);
        x.take(1);
        Due.ofLines("the last is gone", x, 0, 4);
    }

    /** "each is a row of 0 .. 9 TOKENS" */
    private static void noTokensToNine() {
        for (int count = 0; count <= 9; count++) {
            int told = repeated(8, count);
            IndentRules x = Due.lines(told);
            Due.due(count + " tokens", x.many(5), count);
            Due.due(count + " tokens are told", x.ofLine(0, 0), told);
            Due.due(count + " tokens are so wide", x.ofLine(0, 2), count);
        }
        Due.due("ten are too many", new IndentRules().put(0, 1111111111), IndentRules.OUTSIDE);
    }

    /** "told as a number with a digit for each, the first the highest" */
    private static void firstTokenIsTheHighestDigit() {
        for (int place = 0; place < 9; place++) {
            String told = "8".repeat(place) + "2" + "8".repeat(8 - place);
            Due.due("the brace of " + told, Due.lines(Integer.parseInt(told)).opener(0, 1), place);
        }
        Due.ofLines("the first is the highest", Due.lines(2, 38), 1, 0, 0);
        Due.ofLines("the last is the lowest", Due.lines(2, 83), 1, 0, 4);
    }

    /** "WORD (3 CELLS wide), KEYWORD (2 wide), NOTE (4 wide); others are 1 wide" */
    private static void widthsOfTokens() {
        int[] wide = {3, 1, 1, 1, 1, 1, 2, 1, 4};
        for (int token = 1; token <= 9; token++) {
            Due.due("one of " + token, Due.lines(token).ofLine(0, 2), wide[token - 1]);
            Due.due("nine of " + token, Due.lines(repeated(token, 9)).ofLine(0, 2), 9 * wide[token - 1]);
        }
    }

    /** "TOKENS behind a NOTE on its LINE are not there for all that follows" */
    private static void behindANoteNothingOpens() {
        IndentRules x = Due.lines(92, 94, 18249, 8);
        Due.due("openers", x.many(1), 2);
        Due.due("the first of them", x.opener(0, 0), 2);
        Due.ofLines("open as they begin", x, 3, 0, 0, 0, 2);
        Due.ofLines("columns", x, 1, 0, 0, 0, 8);
    }

    private static void behindANoteNothingCloses() {
        IndentRules x = Due.lines(2, 93, 4, 1895, 95);
        Due.ofLines("open as they begin", x, 3, 0, 1, 1, 2, 2);
        Due.ofLines("no stray ones", x, 4, 0, 0, 0, 0, 0);
        Due.due("strays", x.many(3), 0);
        Due.due("without a partner", x.many(2), 2);
        Due.due("the brace's partner", x.opener(0, 5), NONE);
        Due.due("the bracket's partner", x.opener(1, 5), NONE);
    }

    private static void behindANoteNothingIsLast() {
        Due.ofLines("a word behind a note", Due.lines(891, 8), 1, 0, 0);
        Due.ofLines("a keyword behind a note", Due.lines(897, 8), 1, 0, 0);
        Due.ofLines("a word ahead of a note", Due.lines(198, 8), 1, 0, 8);
        Due.ofLines("a keyword ahead of a note", Due.lines(798, 8), 1, 0, 4);
    }

    private static void behindANoteNothingFollowsABracket() {
        for (int token = 1; token <= 9; token++) {
            IndentRules x = Due.lines(1490 + token, 8);
            Due.due("behind it is " + token, x.opener(0, 4), 2);
            Due.ofLines("behind it is " + token, x, 1, 0, 8);
        }
        Due.due("a word, then a note", Due.lines(1419).opener(0, 4), 3);
    }

    /** "(but are told, and have their width)" */
    private static void behindANoteAllIsToldAndWide() {
        IndentRules x = Due.lines(912345678, 199);
        Due.ofLines("told", x, 0, 912345678, 199);
        Due.ofLines("wide", x, 2, 4 + 3 + 1 + 1 + 1 + 1 + 1 + 2 + 1, 3 + 4 + 4);
        Due.due("tokens of all lines", x.many(5), 12);
    }

    private static void notesAtBothEnds() {
        IndentRules x = Due.lines(2, 9, 9, 3);
        Due.ofLines("a line of a note stands in", x, 1, 0, 4, 4, 0);
        Due.ofLines("a note first, in a bracket", Due.lines(141, 95, 5), 1, 0, 4, 3);
        Due.ofLines("a note last", Due.lines(29, 39), 1, 0, 0);
        Due.ofLines("nine notes", Due.lines(999999999, 8), 2, 36, 1);
    }

    /** "A STYLE: ..; 4, 8, 1, 0 at first" */
    private static void settingsAtFirst() {
        Due.ofLines("STEP is 4", Due.lines(2, 8), 1, 0, 4);
        Due.ofLines("HANG is 8", Due.lines(1, 8), 1, 0, 8);
        Due.ofLines("ALIGN is 1", Due.lines(41, 8), 1, 0, 1);
        Due.ofLines("OUT is 0", Due.lines(2, 3), 1, 0, 0);
    }

    // ---- part 2

    /** "COLUMN of a LINE without TOKENS is 0" */
    private static void columnWithoutTokens() {
        for (int ahead : new int[] {0, 1, 2, 4, 6, 7, 22, 141, 42}) {
            IndentRules x = styled(8, 8, 1, 1, ahead, 0);
            Due.due("below " + ahead, x.ofLine(1, 1), 0);
            Due.due("below " + ahead + ", with widths", x.ofLine(1, 2), 0);
        }
        Due.ofLines("what is open goes on behind it", Due.lines(2, 0, 0, 8, 0, 3), 1, 0, 0, 0, 4, 0, 0);
    }

    /** "LAST is the last TOKEN, not a NOTE, of all so far (0: there was none)" */
    private static void lastWhenThereWasNone() {
        Due.ofLines("the first line", Due.lines(8), 1, 0);
        Due.ofLines("below a line without tokens", Due.lines(0, 1), 1, 0, 0);
        Due.ofLines("below notes", Due.lines(9, 91, 97, 1), 1, 0, 0, 0, 0);
    }

    /** "IN and HANG, if LAST is a WORD, a bracket's CLOSER, a JOINER; IN and STEP, if it is a KEYWORD; else IN" */
    private static void lastWithNothingOnTop() {
        lasts("nothing on top", 0, 8, 4, 0, 8, 8, 8, 4, 0, 0);
    }

    private static void lastInABrace() {
        lasts("in a brace", 2, 12, 4, 0, 8, 12, 12, 8, 4, 4);
        lasts("closed again", 23, 8, 4, 0, 8, 8, 8, 4, 0, 0);
    }

    /** In a bracket LAST is not asked for. */
    private static void lastInABracket() {
        lasts("in a bracket", 4, 1, 4, 1, 8, 8, 1, 1, 1, 8);
        lasts("in a bracket behind an end", 48, 1, 4, 1, 8, 8, 1, 1, 1, 1);
    }

    private static void lastIsOfAllLinesSoFar() {
        Due.ofLines("over lines without tokens and notes", Due.lines(16, 0, 9, 0, 8), 1, 0, 0, 8, 0, 8);
        Due.ofLines("over a closed brace", Due.lines(21, 3, 8), 1, 0, 0, 0);
        Due.ofLines("a stray closer is LAST too", Due.lines(13, 8), 1, 0, 0);
        Due.ofLines("a stray bracket's closer is LAST too", Due.lines(85, 8), 1, 0, 8);
        Due.ofLines("what follows is not asked", Due.lines(8, 8, 1), 1, 0, 0, 0);
    }

    /** "(0: nothing is on top)" */
    private static void firstTokenWithNothingOnTop() {
        firsts("nothing on top", Due.lines(8), 0, 0, 0, 0, 0, 0, 0, 0, 0);
        firsts("nothing on top, behind a word", Due.lines(1), 8, 8, 8, 8, 8, 8, 8, 8, 8);
        firsts("nothing on top, behind a keyword", styled(1, 8, 1, 1, 7), 1, 1, 1, 1, 1, 1, 1, 1, 1);
    }

    /** "a brace's CLOSER, and a BRACE on top: its BASE, and STEP more, if OUT is 1" */
    private static void firstTokenInABrace() {
        firsts("in a brace", Due.lines(2), 4, 4, 0, 4, 4, 4, 4, 4, 4);
        firsts("in a brace, OUT", styled(4, 8, 1, 1, 2), 4, 4, 4, 4, 4, 4, 4, 4, 4);
        firsts("in a brace, behind a word", Due.lines(21), 12, 12, 0, 12, 12, 12, 12, 12, 12);
        firsts("in a brace, behind a word, OUT", styled(3, 5, 1, 1, 21), 8, 8, 3, 8, 8, 8, 8, 8, 8);
        Due.ofLines("BASE is not 0", styled(3, 5, 1, 1, 2, 2, 3, 3), 1, 0, 3, 6, 3);
        Due.ofLines("BASE is not 0, OUT is 0", styled(3, 5, 1, 0, 2, 2, 3, 3), 1, 0, 3, 3, 0);
    }

    /** "a bracket's CLOSER, and a BRACKET on top: its AT, if it is ALIGNED"; "else a BRACKET on top: its AT and 1" */
    private static void firstTokenInAnAlignedBracket() {
        firsts("in an aligned bracket", Due.lines(141), 4, 4, 4, 4, 3, 4, 4, 4, 4);
        firsts("in an aligned bracket, OUT", styled(8, 8, 1, 1, 141), 4, 4, 4, 4, 3, 4, 4, 4, 4);
        firsts("in an aligned bracket at the start", Due.lines(47), 1, 1, 1, 1, 0, 1, 1, 1, 1);
    }

    /** "else its BASE"; "else its BASE and HANG" */
    private static void firstTokenInAnotherBracket() {
        firsts("in a bracket", Due.lines(14), 8, 8, 8, 8, 0, 8, 8, 8, 8);
        firsts("in a bracket, ALIGN is 0", styled(2, 5, 0, 1, 141), 5, 5, 5, 5, 0, 5, 5, 5, 5);
        firsts("in a bracket ahead of a note", Due.lines(1491), 8, 8, 8, 8, 0, 8, 8, 8, 8);
    }

    private static void leastAndMostStepsAndHangs() {
        int[] tokens = {2, 7, 8, 1, 8, 4, 8, 5, 3};
        Due.ofLines("1, 1, 0, 0", styled(1, 1, 0, 0, tokens), 1, 0, 1, 2, 1, 2, 1, 2, 1, 0);
        Due.ofLines("8, 8, 1, 1", styled(8, 8, 1, 1, tokens), 1, 0, 8, 16, 8, 16, 8, 16, 8, 8);
        Due.ofLines("1, 8, 1, 0", styled(1, 8, 1, 0, tokens), 1, 0, 1, 2, 1, 9, 1, 9, 1, 0);
        Due.ofLines("8, 1, 0, 1", styled(8, 1, 0, 1, tokens), 1, 0, 8, 16, 8, 9, 8, 9, 8, 8);
    }

    /** "each AT its place: COLUMN and the widths of all ahead of it on its LINE" */
    private static void placesOfOpeners() {
        int[] wide = {3, 1, 1, 1, 1, 1, 2, 1};
        for (int ahead = 1; ahead <= 8; ahead++) {
            IndentRules x = Due.lines(8, ahead * 10 + 2);
            Due.due("behind " + ahead, x.opener(x.many(1) - 1, 2), wide[ahead - 1]);
        }
        IndentRules y = Due.lines(2, 176444444);
        Due.ofOpener("the first of its line", y, 1, 1, 3, 4 + 3 + 2 + 1, 4, 3, NONE);
        Due.ofOpener("the last of its line", y, 6, 1, 8, 4 + 3 + 2 + 1 + 5, 4, 2, NONE);
    }

    /** "its BASE is COLUMN of its LINE" */
    private static void baseIsTheLinesColumn() {
        IndentRules x = Due.lines(1, 6242, 8);
        for (int c = 0; c < 3; c++) {
            Due.due("BASE of opener " + c, x.opener(c, 3), 8);
            Due.due("AT of opener " + c, x.opener(c, 2), 9 + c);
        }
        Due.ofLines("not AT, but BASE", x, 1, 0, 8, 12);
    }

    /** "a BRACKET is ALIGNED, if ALIGN is 1 and a TOKEN that is not a NOTE follows it on its LINE" */
    private static void alignedByWhatFollows() {
        for (int next = 1; next <= 9; next++) {
            Due.due("followed by " + next, Due.lines(40 + next).opener(0, 4), next == 9 ? 2 : 3);
            Due.due("followed on the next line by " + next, Due.lines(4, next).opener(0, 4), 2);
        }
        Due.due("the ninth token", Due.lines(111111114).opener(0, 4), 2);
        Due.due("the eighth token", Due.lines(111111141).opener(0, 4), 3);
        Due.due("a brace is never", Due.lines(21).opener(0, 4), 1);
    }

    private static void alignedByTheSetting() {
        IndentRules x = Due.lines(214, 141);
        Due.due("ALIGN is 1", x.opener(2, 4), 3);
        Due.due("ALIGN is 1, nothing follows", x.opener(1, 4), 2);
        x.style(2, 0);
        Due.due("ALIGN is 0", x.opener(2, 4), 2);
        Due.due("ALIGN is 0, nothing follows", x.opener(1, 4), 2);
        Due.due("ALIGN is 0, a brace", x.opener(0, 4), 1);
    }

    /** "A CLOSER takes the OPENER on top off (they are PARTNERS), if that is of its sort" */
    private static void closersTakeWhatIsOnTop() {
        IndentRules x = Due.lines(2424, 5, 35, 3);
        int[] partners = {3, 2, 2, 1};
        for (int c = 0; c < 4; c++) {
            Due.due("partner of opener " + c, x.opener(c, 5), partners[c]);
        }
        Due.ofLines("open as they begin", x, 3, 0, 4, 3, 1);
        Due.due("without a partner", x.many(2), 0);
        IndentRules y = Due.lines(23, 45);
        Due.due("on the same line", y.opener(0, 5), 0);
        Due.due("on the same line", y.opener(1, 5), 1);
        IndentRules most = new IndentRules();
        for (int l = 0; l < 20; l++) {
            most.put(l, l < 10 ? 222222222 : 333333333);
        }
        Due.due("the last closer has the first opener", most.opener(0, 5), 19);
        Due.due("the first closer has the last opener", most.opener(89, 5), 10);
        Due.due("all have partners", most.many(2), 0);
    }

    /** "else it is STRAY" */
    private static void strayClosersTakeNothingOff() {
        IndentRules x = Due.lines(35, 2, 5, 4, 3, 5, 3, 3);
        Due.ofLines("stray", x, 4, 2, 0, 1, 0, 1, 0, 0, 1);
        Due.ofLines("open as they begin", x, 3, 0, 0, 1, 1, 2, 2, 1, 0);
        Due.due("the brace's own closer", x.opener(0, 5), 6);
        Due.due("the bracket's own closer", x.opener(1, 5), 5);
        Due.due("one of its sort below the top does not help", Due.lines(24, 3).ofLine(1, 4), 1);
        Due.due("nine of a line", Due.lines(353535353).ofLine(0, 4), 9);
    }

    /** "OPENERS are numbered from 0 on as they come, in all LINES" */
    private static void openersAreNumberedInAllLines() {
        IndentRules x = Due.lines(0, 1412, 9, 3, 24);
        int[] lines = {1, 1, 4, 4};
        int[] tokens = {1, 3, 0, 1};
        for (int c = 0; c < 4; c++) {
            Due.due("line of opener " + c, x.opener(c, 0), lines[c]);
            Due.due("token of opener " + c, x.opener(c, 1), tokens[c]);
        }
        Due.due("no fifth one", x.opener(4, 0), IndentRules.UNKNOWN);
        x.take(1);
        Due.due("the others' numbers", x.opener(0, 0), 3);
        Due.due("and no more", x.opener(2, 0), IndentRules.UNKNOWN);
    }

    /** A column has no bound of its own; only what is SEEN has one. */
    private static void columnsBeyondWhatCanBeSeen() {
        IndentRules x = new IndentRules();
        for (int l = 0; l < 20; l++) {
            x.put(l, 111111141);
        }
        Due.due("the last column", x.ofLine(19, 1), 19 * 22);
        Due.due("with widths", x.ofLine(19, 2), 19 * 22 + 25);
        Due.due("the last AT", x.opener(19, 2), 19 * 22 + 21);
        x.see(19, 200);
        Due.due("it is not as seen", x.unlike(0), 19);
        Due.due("it can't be seen", x.see(19, 418), IndentRules.OUTSIDE);
    }

    /** "All that is told is by how all is when it is asked" */
    private static void toldByHowAllIsWhenAsked() {
        IndentRules x = Due.lines(8, 141, 8);
        x.see(2, 4);
        Due.due("unlike", x.unlike(0), NONE);
        Due.due("fits", x.fits(4, 8, 1, 0), 1);
        x.put(1, 2);
        Due.due("the line's column", x.ofLine(3, 1), 8);
        Due.due("the opener's AT", x.opener(1, 2), 7);
        Due.due("unlike", x.unlike(0), 3);
        Due.due("fits", x.fits(4, 8, 1, 0), 0);
        Due.due("score", x.score(1, 8, 0, 0, 0), 0);
        Due.due("guess", x.guess(0), 1);
        x.change(1, 0);
        Due.due("unlike again", x.unlike(0), NONE);
        Due.due("fits again", x.fits(4, 8, 1, 0), 1);
    }

    // ---- part 3

    /** "a column (0 .. 200) that was seen, or NONE (at first)" */
    private static void seenIsNoneAtFirst() {
        IndentRules x = Due.lines(1, 0);
        Due.ofLines("at first", x, 5, NONE, NONE);
        Due.due("seen lines", x.many(4), 0);
        x.see(0, 7);
        x.take(0);
        x.put(1, 1);
        Due.ofLines("a new line's, too", x, 5, NONE, NONE);
    }

    private static IndentRules below(int openers) {
        IndentRules x = Due.lines(repeated(2, Math.min(9, openers)), repeated(4, Math.max(0, openers - 9)), 8);
        x.see(2, x.ofLine(2, 1));
        return x;
    }

    /** "1, halved as often as OPENERS are open as it begins, 12 times at most" */
    private static void weightIsHalvedTwelveTimesAtMost() {
        for (int open = 0; open <= 18; open++) {
            IndentRules x = below(open);
            float weight = 1f / (1 << Math.min(open, 12));
            Due.due("open as it begins", x.ofLine(2, 3), open);
            Due.due("weight below " + open, x.score(4, 8, 1, 0, 0), Float.floatToIntBits(weight));
        }
        IndentRules full = States.full();
        for (int l = 0; l < 19; l++) {
            full.see(l, NONE);
        }
        full.see(19, 112);
        Due.due("below 171", full.score(4, 8, 1, 0, 0), Float.floatToIntBits(1f / 4096));
        Due.due("openers of its own do not count", full.ofLine(19, 3), 171);
    }

    /** "SCORE of a STYLE: a float, 0 at first" */
    private static void scoreOfNothing() {
        Due.due("no lines", new IndentRules().score(1, 1, 0, 0, 0), 0);
        Due.due("no lines, a thousand times", new IndentRules().score(8, 8, 1, 1, 1), 0);
        Due.due("nothing seen", Due.lines(8, 8).score(4, 8, 1, 0, 0), 0);
        IndentRules x = Due.lines(8);
        x.see(0, 1);
        Due.due("nothing as seen", x.score(4, 8, 1, 0, 0), 0);
    }

    /** "for each LINE that was SEEN and has TOKENS" */
    private static void scoreCountsOnlyWhatWasSeenAndHasTokens() {
        IndentRules x = Due.lines(8, 0, 9, 8);
        x.see(1, 0);
        Due.due("without tokens", x.score(1, 1, 0, 0, 1), 0);
        Due.due("without tokens, fits", x.fits(1, 1, 0, 0), 0);
        Due.due("without tokens, unlike", x.unlike(0), NONE);
        x.see(2, 0);
        Due.due("a note is a token", x.score(1, 1, 0, 0, 1), 1000);
        Due.due("a note is a token, fits", x.fits(1, 1, 0, 0), 1);
        x.see(2, 1);
        Due.due("a note is a token, unlike", x.unlike(0), 2);
    }

    /** "a thousand times it, cut to a whole number" */
    private static void scoreIsCutNotRounded() {
        int[] thousands = {1000, 500, 250, 125, 62, 31, 15, 7, 3, 1, 0, 0, 0, 0};
        for (int open = 0; open < thousands.length; open++) {
            Due.due("a thousand times, below " + open, below(open).score(4, 8, 1, 0, 1), thousands[open]);
        }
        IndentRules x = Due.lines(8, 222222222, 22, 8);
        x.see(0, 0);
        x.see(3, 8);
        Due.due("bits of 1 and 1/2048", x.score(4, 8, 1, 0, 0), Float.floatToIntBits(1f + 1f / 2048));
        Due.due("a thousand times 1 and 1/2048", x.score(4, 8, 1, 0, 1), 1000);
    }

    private static void greatestScore() {
        IndentRules x = new IndentRules();
        for (int l = 0; l < 20; l++) {
            x.put(l, 8);
            x.see(l, 0);
        }
        Due.due("bits of 20", x.score(8, 8, 1, 1, 0), Float.floatToIntBits(20f));
        Due.due("a thousand times 20", x.score(8, 8, 1, 1, 1), 20000);
        Due.due("fits", x.fits(8, 8, 1, 1), 20);
        Due.due("guess", x.guess(4), Float.floatToIntBits(20f));
    }

    private static void guessIs(String name, IndentRules x, int step, int hang, int align, int out, float score) {
        int[] want = {step, hang, align, out, Float.floatToIntBits(score)};
        for (int what = 0; what < want.length; what++) {
            Due.due(name + ": guess(" + what + ")", x.guess(what), want[what]);
        }
    }

    /** "GUESS: the STYLE of the greatest SCORE": not of the most lines. */
    private static void guessGoesByScoreAhead() {
        IndentRules x = Due.lines(7, 8, 22222, 8, 8, 8, 8);
        x.see(1, 7);
        for (int l = 3; l < 7; l++) {
            x.see(l, 2);
        }
        guessIs("one line outweighs four", x, 7, 1, 0, 0, 1f);
        Due.due("one line", x.fits(7, 1, 0, 0), 1);
        Due.due("four lines", x.fits(2, 1, 0, 0), 4);
    }

    /** "of several the first (by STEP, then HANG, ALIGN, OUT)" */
    private static void guessGoesByStepFirst() {
        IndentRules x = Due.lines(2, 1, 8);
        x.see(2, 9);
        guessIs("STEP and HANG make 9", x, 1, 8, 0, 0, 0.5f);
        x.see(2, 16);
        guessIs("STEP and HANG make 16", x, 8, 8, 0, 0, 0.5f);
        x.see(2, 17);
        guessIs("they never make 17", x, 1, 1, 0, 0, 0f);
    }

    private static void guessGoesByHangThen() {
        IndentRules x = Due.lines(141, 8);
        x.see(1, 4);
        guessIs("HANG 4 or ALIGN 1", x, 1, 1, 1, 0, 0.5f);
    }

    /** STEP 1 and HANG 3 are told by lines of their own; the last one is so by ALIGN or by OUT, not by both. */
    private static void guessGoesByAlignThen() {
        IndentRules x = Due.lines(7, 8, 1, 8, 141, 2, 3);
        x.see(1, 1);
        x.see(3, 3);
        x.see(6, 4);
        Due.due("ALIGN alone", x.fits(1, 3, 1, 0), 3);
        Due.due("OUT alone", x.fits(1, 3, 0, 1), 3);
        Due.due("neither", x.fits(1, 3, 0, 0), 2);
        Due.due("both", x.fits(1, 3, 1, 1), 2);
        guessIs("ALIGN 0 comes first", x, 1, 3, 0, 1, 2.25f);
    }

    private static void guessGoesByOutLast() {
        IndentRules x = Due.lines(2, 3);
        x.see(0, 0);
        guessIs("OUT 0 comes first", x, 1, 1, 0, 0, 1f);
        x.see(1, 1);
        guessIs("OUT 1 is better", x, 1, 1, 0, 1, 1.5f);
    }

    private static void guessOfTheLastStyle() {
        IndentRules x = styled(8, 8, 1, 1, 2, 1, 8, 141, 8, 58, 3);
        for (int l = 0; l < 7; l++) {
            x.see(l, x.ofLine(l, 1));
        }
        guessIs("the last of all", x, 8, 8, 1, 1, 3.5f);
        IndentRules y = styled(1, 1, 0, 0, 2, 1, 8, 141, 8, 58, 3);
        for (int l = 0; l < 7; l++) {
            y.see(l, y.ofLine(l, 1));
        }
        guessIs("the first of all", y, 1, 1, 0, 0, 3.5f);
    }

    // ---- part 4

    /** "POCKETS 0 .. 2 have nothing (at first)" */
    private static void pocketsHaveNothingAtFirst() {
        IndentRules x = Due.lines(24);
        for (int p = 0; p < 3; p++) {
            Due.due("pocket " + p, x.ofPocket(p, 0, 0), IndentRules.STATE);
            Due.due("pocket " + p + ", stored", x.store(p, 0, 0), IndentRules.STATE);
            Due.due("pocket " + p + ", copied", x.copy(p, 0), IndentRules.STATE);
        }
        x.pocket(1, 0, 1);
        Due.due("the one below has nothing still", x.ofPocket(0, 0, 0), IndentRules.STATE);
        Due.due("the one above, too", x.ofPocket(2, 0, 0), IndentRules.STATE);
    }

    /** "a row of 1 .. 6 cells of a KIND, empty at first" */
    private static void cellsAreEmptyAtFirst() {
        for (int n = 1; n <= 6; n++) {
            IndentRules x = Due.lines(24);
            x.pocket(0, 0, n);
            for (int cell = 0; cell < n; cell++) {
                Due.due("cell " + cell + " of " + n, x.ofPocket(0, cell, 2), NONE);
            }
            Due.due("no cell " + n, x.ofPocket(0, n, 2), IndentRules.INDEX);
        }
    }

    /** Opener 0 a brace, 1 an aligned bracket, 2 a bracket that is not. */
    private static void kindTakes(int kind, int brace, int aligned, int bracket) {
        IndentRules x = Due.lines(2414);
        x.pocket(0, kind, 3);
        int[] want = {brace, aligned, bracket};
        int[] kinds = {1, 3, 2};
        for (int c = 0; c < 3; c++) {
            Due.due("opener " + c + " into kind " + kind, x.store(0, c, c), want[c]);
            Due.due("its KIND in the cell", x.ofPocket(0, c, 2), want[c] == 1 ? kinds[c] : NONE);
        }
    }

    /** "0 any OPENER" */
    private static void anyKindTakesAll() {
        kindTakes(0, 1, 1, 1);
    }

    /** "1 BRACES" */
    private static void bracesAlone() {
        kindTakes(1, 1, IndentRules.KIND, IndentRules.KIND);
    }

    /** "2 BRACKETS, 3 ALIGNED BRACKETS (these are BRACKETS, too)" */
    private static void bracketsAndAlignedOnesToo() {
        kindTakes(2, IndentRules.KIND, 1, 1);
    }

    private static void alignedBracketsAlone() {
        kindTakes(3, IndentRules.KIND, 1, IndentRules.KIND);
    }

    private static void cellIs(String name, IndentRules x, int p, int cell, int line, int at, int kind) {
        Due.due(name + ": LINE", x.ofPocket(p, cell, 0), line);
        Due.due(name + ": AT", x.ofPocket(p, cell, 1), at);
        Due.due(name + ": KIND", x.ofPocket(p, cell, 2), kind);
    }

    /** "What lies in a cell is an OPENER as it was when it was put there" */
    private static void cellsKeepAnOpenerAsItWas() {
        IndentRules x = Due.lines(2, 141);
        x.pocket(0, 3, 2);
        x.store(0, 0, 1);
        cellIs("stored", x, 0, 0, 1, 7, 3);
        x.style(2, 0);
        cellIs("it is not aligned any more", x, 0, 0, 1, 7, 3);
        x.style(0, 1);
        cellIs("it stands elsewhere", x, 0, 0, 1, 7, 3);
        x.put(0, 0);
        cellIs("its line has another number", x, 0, 0, 1, 7, 3);
        x.copy(0, 1);
        cellIs("copied as it was", x, 1, 0, 1, 7, 3);
        x.take(2);
        cellIs("it is gone", x, 0, 0, 1, 7, 3);
        cellIs("it is gone, copied", x, 1, 0, 1, 7, 3);
        Due.due("as it is now it is not there", x.store(0, 1, 1), IndentRules.UNKNOWN);
        x.put(2, 141);
        Due.due("as it is now it is not taken", x.store(0, 1, 1), IndentRules.KIND);
        x.style(2, 1);
        Due.due("aligned again", x.store(0, 1, 1), 1);
        cellIs("as it is now", x, 0, 1, 2, 4, 3);
        cellIs("the other cell", x, 0, 0, 1, 7, 3);
    }
}
