/**
 * How far lines of tokens stand in, by a style of four numbers and by what is open as each line begins.
 *
 * Which opener lies on which does not depend on the style, so it is kept apart (Nesting) from the columns
 * by one style (Layout): trying a style goes over the lines alone, not over their tokens.
 */
public final class IndentRules {
    public static final int UNKNOWN = -1, OUTSIDE = -2, STATE = -3, FULL = -4, NONE = -9, KIND = -11, INDEX = -13;

    private static final int MAX_LINES = 20;
    private static final int MAX_TOKENS = 9;
    private static final int MAX_OPENERS = MAX_LINES * MAX_TOKENS;
    private static final int GREATEST_TOLD = 999999999;
    private static final int GREATEST_SEEN = 200;

    private static final int WORD = 1;
    private static final int BRACE = 2;
    private static final int BRACE_CLOSER = 3;
    private static final int BRACKET = 4;
    private static final int BRACKET_CLOSER = 5;
    private static final int JOINER = 6;
    private static final int KEYWORD = 7;
    private static final int NOTE = 9;
    private static final int[] WIDTHS = {0, 3, 1, 1, 1, 1, 1, 2, 1, 4};

    private static final int SETTINGS = 4;
    private static final int STEP = 0;
    private static final int HANG = 1;
    private static final int ALIGN = 2;
    private static final int OUT = 3;
    private static final int[] LEAST = {1, 1, 0, 0};
    private static final int[] MOST = {8, 8, 1, 1};

    private static final int ANY_KIND = 0;
    private static final int BRACE_KIND = 1;
    private static final int BRACKET_KIND = 2;
    private static final int ALIGNED_KIND = 3;

    private static final int POCKETS = 3;
    private static final int MAX_CELLS = 6;

    // A weight is a whole number of parts of 2^-12, and a score at most 20 * 4096 of them: 17 bits, and 24
    // when multiplied by 1000. A float holds all of these exactly, so counting parts answers as floats do.
    private static final int MOST_HALVINGS = 12;
    private static final int PARTS_OF_ONE = 1 << MOST_HALVINGS;
    private static final int FRACTION_BITS = 23;
    private static final int EXPONENT_BIAS = 127;

    private final Text text = new Text();
    private final Nesting nesting = new Nesting();
    private final Layout now = new Layout();
    private final Layout tried = new Layout();
    private final int[] guessed = new int[SETTINGS];
    private int guessedParts;
    private final Pocket[] pockets = new Pocket[POCKETS];

    public IndentRules() {
        now.choose(4, 8, 1, 0);
        for (int p = 0; p < POCKETS; p++) {
            pockets[p] = new Pocket();
        }
    }

    // ---- 1 lines

    public int put(int at, int tokens) {
        if (at < 0 || at > text.size) {
            return UNKNOWN;
        }
        if (!areTokens(tokens)) {
            return OUTSIDE;
        }
        if (text.size >= MAX_LINES) {
            return FULL;
        }
        rememberColumns();
        text.insert(at, tokens);
        readLines();
        return movedBut(at);
    }

    public int change(int l, int tokens) {
        if (!isLine(l)) {
            return UNKNOWN;
        }
        if (!areTokens(tokens)) {
            return OUTSIDE;
        }
        rememberColumns();
        text.lines[l].read(tokens);
        readLines();
        return movedBut(l);
    }

    public int take(int l) {
        if (!isLine(l)) {
            return UNKNOWN;
        }
        rememberColumns();
        text.remove(l);
        readLines();
        return movedBut(NONE);
    }

    public int style(int k, int v) {
        if (k < 0 || k >= SETTINGS) {
            return UNKNOWN;
        }
        if (!isSetting(k, v)) {
            return OUTSIDE;
        }
        int was = now.settings[k];
        now.settings[k] = v;
        now.lay(text, nesting);
        return was;
    }

    // ---- 2 columns

    public int ofLine(int l, int what) {
        if (!isLine(l)) {
            return UNKNOWN;
        }
        Line line = text.lines[l];
        switch (what) {
            case 0:
                return line.told;
            case 1:
                return now.columns[l];
            case 2:
                return line.count == 0 ? 0 : now.columns[l] + line.widthAhead(line.count);
            case 3:
                return nesting.depths[l];
            case 4:
                return nesting.strays[l];
            case 5:
                return line.seen;
            default:
                return OUTSIDE;
        }
    }

    public int opener(int c, int what) {
        if (!isOpener(c)) {
            return UNKNOWN;
        }
        switch (what) {
            case 0:
                return nesting.lineOf[c];
            case 1:
                return nesting.tokenOf[c];
            case 2:
                return now.placeOf(nesting, c);
            case 3:
                return now.baseOf(nesting, c);
            case 4:
                return now.kindOf(nesting, c);
            case 5:
                return nesting.partnerLineOf[c];
            default:
                return OUTSIDE;
        }
    }

    public int unlike(int l) {
        if (!isLine(l)) {
            return UNKNOWN;
        }
        for (int i = l; i < text.size; i++) {
            if (text.lines[i].counts() && !isAsSeen(now, i)) {
                return i;
            }
        }
        return NONE;
    }

    // ---- 3 styles

    public int see(int l, int v) {
        if (!isLine(l)) {
            return UNKNOWN;
        }
        if (v != NONE && (v < 0 || v > GREATEST_SEEN)) {
            return OUTSIDE;
        }
        Line line = text.lines[l];
        int was = line.seen;
        line.seen = v;
        return was;
    }

    public int fits(int step, int hang, int align, int out) {
        if (!isStyle(step, hang, align, out)) {
            return OUTSIDE;
        }
        layTried(step, hang, align, out);
        int fitting = 0;
        for (int l = 0; l < text.size; l++) {
            if (isAsSeen(tried, l)) {
                fitting++;
            }
        }
        return fitting;
    }

    public int score(int step, int hang, int align, int out, int what) {
        if (!isStyle(step, hang, align, out) || what < 0 || what > 1) {
            return OUTSIDE;
        }
        layTried(step, hang, align, out);
        int parts = partsOfTried();
        return what == 0 ? floatBits(parts) : parts * 1000 / PARTS_OF_ONE;
    }

    public int guess(int what) {
        if (what < 0 || what > SETTINGS) {
            return OUTSIDE;
        }
        if (!hasSeenTokens()) {
            return STATE;
        }
        findGuess();
        return what < SETTINGS ? guessed[what] : floatBits(guessedParts);
    }

    public int follow() {
        if (!hasSeenTokens()) {
            return STATE;
        }
        findGuess();
        rememberColumns();
        now.choose(guessed[STEP], guessed[HANG], guessed[ALIGN], guessed[OUT]);
        now.lay(text, nesting);
        return movedBut(NONE);
    }

    // ---- 4 pockets

    public int pocket(int p, int kind, int n) {
        if (!isPocket(p)) {
            return UNKNOWN;
        }
        if (kind < ANY_KIND || kind > ALIGNED_KIND || n < 1 || n > MAX_CELLS) {
            return OUTSIDE;
        }
        pockets[p].renew(kind, n);
        return 1;
    }

    public int store(int p, int cell, int c) {
        if (!isPocket(p) || !isOpener(c)) {
            return UNKNOWN;
        }
        Pocket target = pockets[p];
        if (target.size == 0) {
            return STATE;
        }
        if (!target.hasCell(cell)) {
            return INDEX;
        }
        int kind = now.kindOf(nesting, c);
        if (!target.takes(kind)) {
            return KIND;
        }
        target.fill(cell, nesting.lineOf[c], now.placeOf(nesting, c), kind);
        return 1;
    }

    public int copy(int from, int to) {
        if (!isPocket(from) || !isPocket(to)) {
            return UNKNOWN;
        }
        if (pockets[from].size == 0) {
            return STATE;
        }
        pockets[to].becomeLike(pockets[from]);
        return 1;
    }

    public int ofPocket(int p, int cell, int what) {
        if (!isPocket(p)) {
            return UNKNOWN;
        }
        if (what < 0 || what > 2) {
            return OUTSIDE;
        }
        Pocket asked = pockets[p];
        if (asked.size == 0) {
            return STATE;
        }
        if (!asked.hasCell(cell)) {
            return INDEX;
        }
        return asked.tell(cell, what);
    }

    public int many(int what) {
        switch (what) {
            case 0:
                return text.size;
            case 1:
                return nesting.openers;
            case 2:
                return nesting.withoutPartner();
            case 3:
                return allStrays();
            case 4:
                return seenLines();
            case 5:
                return allTokens();
            default:
                return OUTSIDE;
        }
    }

    // ---- what may be asked

    private boolean isLine(int l) {
        return l >= 0 && l < text.size;
    }

    private boolean isOpener(int c) {
        return c >= 0 && c < nesting.openers;
    }

    private static boolean isPocket(int p) {
        return p >= 0 && p < POCKETS;
    }

    private static boolean areTokens(int number) {
        if (number < 0 || number > GREATEST_TOLD) {
            return false;
        }
        int rest = number;
        for (int i = 0; i < MAX_TOKENS && rest > 0; i++) {
            if (rest % 10 == 0) {
                return false;
            }
            rest /= 10;
        }
        return true;
    }

    private static boolean isSetting(int k, int v) {
        return v >= LEAST[k] && v <= MOST[k];
    }

    private static boolean isStyle(int step, int hang, int align, int out) {
        return isSetting(STEP, step) && isSetting(HANG, hang) && isSetting(ALIGN, align) && isSetting(OUT, out);
    }

    // ---- columns that move

    private void readLines() {
        nesting.read(text);
        now.lay(text, nesting);
    }

    // Kept in the lines themselves, so that a line that gets another number still has its own column.
    private void rememberColumns() {
        for (int l = 0; l < text.size; l++) {
            text.lines[l].columnBefore = now.columns[l];
        }
    }

    private int movedBut(int leftOut) {
        int moved = 0;
        for (int l = 0; l < text.size; l++) {
            if (l != leftOut && text.lines[l].columnBefore != now.columns[l]) {
                moved++;
            }
        }
        return moved;
    }

    // ---- scores

    private boolean isAsSeen(Layout layout, int l) {
        Line line = text.lines[l];
        return line.counts() && line.seen == layout.columns[l];
    }

    private boolean hasSeenTokens() {
        for (int l = 0; l < text.size; l++) {
            if (text.lines[l].counts()) {
                return true;
            }
        }
        return false;
    }

    private void layTried(int step, int hang, int align, int out) {
        tried.choose(step, hang, align, out);
        tried.lay(text, nesting);
    }

    private int partsOfTried() {
        int parts = 0;
        for (int l = 0; l < text.size; l++) {
            if (isAsSeen(tried, l)) {
                parts += PARTS_OF_ONE >> Math.min(nesting.depths[l], MOST_HALVINGS);
            }
        }
        return parts;
    }

    private void findGuess() {
        guessedParts = -1;
        for (int step = LEAST[STEP]; step <= MOST[STEP]; step++) {
            for (int hang = LEAST[HANG]; hang <= MOST[HANG]; hang++) {
                for (int align = LEAST[ALIGN]; align <= MOST[ALIGN]; align++) {
                    for (int out = LEAST[OUT]; out <= MOST[OUT]; out++) {
                        layTried(step, hang, align, out);
                        keepIfBetter();
                    }
                }
            }
        }
    }

    private void keepIfBetter() {
        int parts = partsOfTried();
        if (parts > guessedParts) {
            guessedParts = parts;
            for (int k = 0; k < SETTINGS; k++) {
                guessed[k] = tried.settings[k];
            }
        }
    }

    // The library's own way to a float's bits is not among what LANGUAGE.md leaves.
    private static int floatBits(int parts) {
        if (parts <= 0) {
            return 0;
        }
        int highest = 0;
        for (int bit = 1; bit <= FRACTION_BITS; bit++) {
            if ((parts >> bit) != 0) {
                highest = bit;
            }
        }
        int exponent = highest - MOST_HALVINGS + EXPONENT_BIAS;
        int fraction = (parts - (1 << highest)) << (FRACTION_BITS - highest);
        return (exponent << FRACTION_BITS) | fraction;
    }

    // ---- counts

    private int allStrays() {
        int strays = 0;
        for (int l = 0; l < text.size; l++) {
            strays += nesting.strays[l];
        }
        return strays;
    }

    private int seenLines() {
        int seen = 0;
        for (int l = 0; l < text.size; l++) {
            if (text.lines[l].seen != NONE) {
                seen++;
            }
        }
        return seen;
    }

    private int allTokens() {
        int tokens = 0;
        for (int l = 0; l < text.size; l++) {
            tokens += text.lines[l].count;
        }
        return tokens;
    }

    /** One line: its tokens as told, and what was seen of it. */
    private static final class Line {
        final int[] tokens = new int[MAX_TOKENS];
        int told;
        int count;
        /** How many tokens are there for the rules: a note and what is ahead of it, or all. */
        int present;
        int seen = NONE;
        int columnBefore;

        void read(int number) {
            told = number;
            count = digitsOf(number);
            int rest = number;
            for (int i = count - 1; i >= 0; i--) {
                tokens[i] = rest % 10;
                rest /= 10;
            }
            present = count;
            for (int i = count - 1; i >= 0; i--) {
                if (tokens[i] == NOTE) {
                    present = i + 1;
                }
            }
        }

        private static int digitsOf(int number) {
            int digits = 0;
            int rest = number;
            for (int i = 0; i < MAX_TOKENS && rest > 0; i++) {
                digits++;
                rest /= 10;
            }
            return digits;
        }

        int widthAhead(int end) {
            int width = 0;
            for (int i = 0; i < end && i < count; i++) {
                width += WIDTHS[tokens[i]];
            }
            return width;
        }

        boolean isFollowed(int token) {
            int next = token + 1;
            return next < present && tokens[next] != NOTE;
        }

        /** Only lines that were seen and have tokens tell anything of a style. */
        boolean counts() {
            return seen != NONE && count > 0;
        }
    }

    /** The lines in their order; behind the last one the array holds spare ones. */
    private static final class Text {
        final Line[] lines = new Line[MAX_LINES];
        int size;

        Text() {
            for (int l = 0; l < MAX_LINES; l++) {
                lines[l] = new Line();
            }
        }

        void insert(int at, int tokens) {
            if (size >= MAX_LINES || at < 0 || at > size) {
                return;
            }
            Line fresh = lines[size];
            for (int l = size; l > at; l--) {
                lines[l] = lines[l - 1];
            }
            lines[at] = fresh;
            size++;
            fresh.read(tokens);
            fresh.seen = NONE;
        }

        void remove(int l) {
            if (l < 0 || l >= size) {
                return;
            }
            Line spare = lines[l];
            for (int i = l; i < size - 1; i++) {
                lines[i] = lines[i + 1];
            }
            size--;
            lines[size] = spare;
        }
    }

    /** Which opener lies on which, and which closer is whose: all that the tokens settle without a style. */
    private static final class Nesting {
        // of each line, as it begins
        final int[] tops = new int[MAX_LINES];
        final int[] depths = new int[MAX_LINES];
        final int[] lasts = new int[MAX_LINES];
        final int[] strays = new int[MAX_LINES];

        // of each opener
        int openers;
        final int[] sortOf = new int[MAX_OPENERS];
        final int[] lineOf = new int[MAX_OPENERS];
        final int[] tokenOf = new int[MAX_OPENERS];
        final int[] widthAheadOf = new int[MAX_OPENERS];
        final boolean[] followed = new boolean[MAX_OPENERS];
        final int[] partnerLineOf = new int[MAX_OPENERS];

        // while the lines are gone through
        final int[] open = new int[MAX_OPENERS];
        int height;
        int last;

        void read(Text text) {
            openers = 0;
            height = 0;
            last = 0;
            for (int l = 0; l < text.size; l++) {
                tops[l] = height > 0 ? open[height - 1] : NONE;
                depths[l] = height;
                lasts[l] = last;
                strays[l] = 0;
                readLine(text.lines[l], l);
            }
        }

        private void readLine(Line line, int l) {
            for (int i = 0; i < line.present; i++) {
                int token = line.tokens[i];
                if (token == BRACE || token == BRACKET) {
                    openOne(line, l, i);
                } else if (token == BRACE_CLOSER) {
                    closeOne(BRACE, l);
                } else if (token == BRACKET_CLOSER) {
                    closeOne(BRACKET, l);
                }
                if (token != NOTE) {
                    last = token;
                }
            }
        }

        private void openOne(Line line, int l, int i) {
            if (openers >= MAX_OPENERS || height >= MAX_OPENERS) {
                return;
            }
            sortOf[openers] = line.tokens[i];
            lineOf[openers] = l;
            tokenOf[openers] = i;
            widthAheadOf[openers] = line.widthAhead(i);
            followed[openers] = line.isFollowed(i);
            partnerLineOf[openers] = NONE;
            open[height] = openers;
            height++;
            openers++;
        }

        private void closeOne(int sort, int l) {
            if (height > 0 && sortOf[open[height - 1]] == sort) {
                height--;
                partnerLineOf[open[height]] = l;
            } else {
                strays[l]++;
            }
        }

        int withoutPartner() {
            int without = 0;
            for (int c = 0; c < openers; c++) {
                if (partnerLineOf[c] == NONE) {
                    without++;
                }
            }
            return without;
        }
    }

    /** A style, and the columns of all lines by it. */
    private static final class Layout {
        final int[] settings = new int[SETTINGS];
        final int[] columns = new int[MAX_LINES];

        void choose(int step, int hang, int align, int out) {
            settings[STEP] = step;
            settings[HANG] = hang;
            settings[ALIGN] = align;
            settings[OUT] = out;
        }

        // An opener stands on an earlier line than those it holds, so its column is laid before it is needed.
        void lay(Text text, Nesting nesting) {
            for (int l = 0; l < text.size; l++) {
                Line line = text.lines[l];
                columns[l] = line.count == 0 ? 0 : columnBehind(nesting, l, line.tokens[0]);
            }
        }

        private int columnBehind(Nesting nesting, int l, int first) {
            int top = nesting.tops[l];
            if (top == NONE) {
                return goingOn(0, nesting.lasts[l]);
            }
            if (nesting.sortOf[top] == BRACKET) {
                return columnInBracket(nesting, top, first);
            }
            int base = baseOf(nesting, top);
            if (first == BRACE_CLOSER) {
                return settings[OUT] == 1 ? base + settings[STEP] : base;
            }
            return goingOn(base + settings[STEP], nesting.lasts[l]);
        }

        private int columnInBracket(Nesting nesting, int top, int first) {
            boolean closes = first == BRACKET_CLOSER;
            if (isAligned(nesting, top)) {
                int place = placeOf(nesting, top);
                return closes ? place : place + 1;
            }
            int base = baseOf(nesting, top);
            return closes ? base : base + settings[HANG];
        }

        private int goingOn(int in, int last) {
            if (last == WORD || last == BRACKET_CLOSER || last == JOINER) {
                return in + settings[HANG];
            }
            return last == KEYWORD ? in + settings[STEP] : in;
        }

        private boolean isAligned(Nesting nesting, int c) {
            return nesting.sortOf[c] == BRACKET && settings[ALIGN] == 1 && nesting.followed[c];
        }

        int baseOf(Nesting nesting, int c) {
            return columns[nesting.lineOf[c]];
        }

        int placeOf(Nesting nesting, int c) {
            return columns[nesting.lineOf[c]] + nesting.widthAheadOf[c];
        }

        int kindOf(Nesting nesting, int c) {
            if (nesting.sortOf[c] == BRACE) {
                return BRACE_KIND;
            }
            return isAligned(nesting, c) ? ALIGNED_KIND : BRACKET_KIND;
        }
    }

    /** A row of cells for openers of one kind; with no cells it has nothing. */
    private static final class Pocket {
        int kind;
        int size;
        final int[] lineIn = new int[MAX_CELLS];
        final int[] placeIn = new int[MAX_CELLS];
        final int[] kindIn = new int[MAX_CELLS];

        void renew(int newKind, int cells) {
            kind = newKind;
            size = cells;
            for (int cell = 0; cell < MAX_CELLS; cell++) {
                fill(cell, NONE, NONE, NONE);
            }
        }

        boolean hasCell(int cell) {
            return cell >= 0 && cell < size;
        }

        boolean takes(int openerKind) {
            return kind == ANY_KIND || kind == openerKind || (kind == BRACKET_KIND && openerKind == ALIGNED_KIND);
        }

        void fill(int cell, int line, int place, int openerKind) {
            lineIn[cell] = line;
            placeIn[cell] = place;
            kindIn[cell] = openerKind;
        }

        // An empty cell holds NONE for all three, which is just what is told of it.
        int tell(int cell, int what) {
            if (what == 0) {
                return lineIn[cell];
            }
            return what == 1 ? placeIn[cell] : kindIn[cell];
        }

        void becomeLike(Pocket other) {
            kind = other.kind;
            size = other.size;
            for (int cell = 0; cell < MAX_CELLS; cell++) {
                fill(cell, other.lineIn[cell], other.placeIn[cell], other.kindIn[cell]);
            }
        }
    }
}
