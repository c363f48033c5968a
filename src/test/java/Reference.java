import java.util.ArrayDeque;
import java.util.ArrayList;
import java.util.Deque;
import java.util.List;

/**
 * The document once more, written to be slow and plain: every answer goes through all tokens by the style
 * anew, and scores are real floats. RandomRunsTest compares IndentRules with it.
 */
final class Reference {
    private static final int NONE = -9;

    private static final class Row {
        String tokens = "";
        Integer seen = null;
    }

    private static final class Opener {
        int line;
        int token;
        int at;
        int base;
        int kind;
        int partner = NONE;
    }

    private static final class Sheet {
        final List<Integer> columns = new ArrayList<>();
        final List<Integer> depths = new ArrayList<>();
        final List<Integer> strays = new ArrayList<>();
        final List<Opener> openers = new ArrayList<>();
    }

    private static final class Bag {
        final int kind;
        final Opener[] cells;

        Bag(int kind, int n) {
            this.kind = kind;
            this.cells = new Opener[n];
        }
    }

    private final List<Row> rows = new ArrayList<>();
    private int[] style = {4, 8, 1, 0};
    private final Bag[] bags = new Bag[3];

    private static String read(int tokens) {
        if (tokens < 0) {
            return null;
        }
        String told = tokens == 0 ? "" : Integer.toString(tokens);
        return told.length() > 9 || told.indexOf('0') >= 0 ? null : told;
    }

    private static int width(char token) {
        return token == '1' ? 3 : token == '7' ? 2 : token == '9' ? 4 : 1;
    }

    private static String there(String tokens) {
        int note = tokens.indexOf('9');
        return note < 0 ? tokens : tokens.substring(0, note);
    }

    private Sheet sheet(int[] s) {
        Sheet sheet = new Sheet();
        Deque<Opener> open = new ArrayDeque<>();
        char last = '0';
        for (int l = 0; l < rows.size(); l++) {
            String all = rows.get(l).tokens;
            String there = there(all);
            int column = all.isEmpty() ? 0 : column(all.charAt(0), open.peek(), last, s);
            sheet.columns.add(column);
            sheet.depths.add(open.size());
            int strays = 0;
            int at = column;
            for (int i = 0; i < there.length(); i++) {
                char token = there.charAt(i);
                if (token == '2' || token == '4') {
                    Opener o = new Opener();
                    o.line = l;
                    o.token = i;
                    o.at = at;
                    o.base = column;
                    o.kind = token == '2' ? 1 : s[2] == 1 && i < there.length() - 1 ? 3 : 2;
                    open.push(o);
                    sheet.openers.add(o);
                } else if (token == '3' || token == '5') {
                    if (!open.isEmpty() && (open.peek().kind == 1) == (token == '3')) {
                        open.pop().partner = l;
                    } else {
                        strays++;
                    }
                }
                at += width(token);
                last = token;
            }
            sheet.strays.add(strays);
        }
        return sheet;
    }

    private static int column(char first, Opener top, char last, int[] s) {
        if (first == '3' && top != null && top.kind == 1) {
            return top.base + s[3] * s[0];
        }
        if (first == '5' && top != null && top.kind != 1) {
            return top.kind == 3 ? top.at : top.base;
        }
        if (top != null && top.kind != 1) {
            return top.kind == 3 ? top.at + 1 : top.base + s[1];
        }
        int in = top == null ? 0 : top.base + s[0];
        return "156".indexOf(last) >= 0 ? in + s[1] : last == '7' ? in + s[0] : in;
    }

    private static int differing(List<Integer> a, List<Integer> b) {
        int count = 0;
        for (int i = 0; i < a.size(); i++) {
            if (!a.get(i).equals(b.get(i))) {
                count++;
            }
        }
        return count;
    }

    int put(int at, int tokens) {
        if (at < 0 || at > rows.size()) {
            return -1;
        }
        if (read(tokens) == null) {
            return -2;
        }
        if (rows.size() == 20) {
            return -4;
        }
        List<Integer> before = sheet(style).columns;
        Row row = new Row();
        row.tokens = read(tokens);
        rows.add(at, row);
        List<Integer> after = sheet(style).columns;
        after.remove(at);
        return differing(before, after);
    }

    int change(int l, int tokens) {
        if (l < 0 || l >= rows.size()) {
            return -1;
        }
        if (read(tokens) == null) {
            return -2;
        }
        List<Integer> before = sheet(style).columns;
        rows.get(l).tokens = read(tokens);
        List<Integer> after = sheet(style).columns;
        before.remove(l);
        after.remove(l);
        return differing(before, after);
    }

    int take(int l) {
        if (l < 0 || l >= rows.size()) {
            return -1;
        }
        List<Integer> before = sheet(style).columns;
        rows.remove(l);
        before.remove(l);
        return differing(before, sheet(style).columns);
    }

    private static boolean within(int k, int v) {
        return k < 2 ? v >= 1 && v <= 8 : v == 0 || v == 1;
    }

    int style(int k, int v) {
        if (k < 0 || k > 3) {
            return -1;
        }
        if (!within(k, v)) {
            return -2;
        }
        int was = style[k];
        style[k] = v;
        return was;
    }

    int ofLine(int l, int what) {
        if (l < 0 || l >= rows.size()) {
            return -1;
        }
        Row row = rows.get(l);
        Sheet sheet = sheet(style);
        int width = row.tokens.chars().map(token -> width((char) token)).sum();
        int[] facts = {row.tokens.isEmpty() ? 0 : Integer.parseInt(row.tokens), sheet.columns.get(l),
            sheet.columns.get(l) + width, sheet.depths.get(l), sheet.strays.get(l), row.seen == null ? NONE : row.seen};
        return what < 0 || what > 5 ? -2 : facts[what];
    }

    int opener(int c, int what) {
        List<Opener> openers = sheet(style).openers;
        if (c < 0 || c >= openers.size()) {
            return -1;
        }
        Opener o = openers.get(c);
        int[] facts = {o.line, o.token, o.at, o.base, o.kind, o.partner};
        return what < 0 || what > 5 ? -2 : facts[what];
    }

    private boolean seenWithTokens(int l) {
        return rows.get(l).seen != null && !rows.get(l).tokens.isEmpty();
    }

    int unlike(int l) {
        if (l < 0 || l >= rows.size()) {
            return -1;
        }
        Sheet sheet = sheet(style);
        for (int i = l; i < rows.size(); i++) {
            if (seenWithTokens(i) && !rows.get(i).seen.equals(sheet.columns.get(i))) {
                return i;
            }
        }
        return NONE;
    }

    int see(int l, int v) {
        if (l < 0 || l >= rows.size()) {
            return -1;
        }
        if (v != NONE && (v < 0 || v > 200)) {
            return -2;
        }
        Integer was = rows.get(l).seen;
        rows.get(l).seen = v == NONE ? null : Integer.valueOf(v);
        return was == null ? NONE : was;
    }

    private static boolean isStyle(int[] s) {
        return within(0, s[0]) && within(1, s[1]) && within(2, s[2]) && within(3, s[3]);
    }

    int fits(int step, int hang, int align, int out) {
        int[] s = {step, hang, align, out};
        if (!isStyle(s)) {
            return -2;
        }
        Sheet sheet = sheet(s);
        int count = 0;
        for (int l = 0; l < rows.size(); l++) {
            if (seenWithTokens(l) && rows.get(l).seen.equals(sheet.columns.get(l))) {
                count++;
            }
        }
        return count;
    }

    private float weighed(int[] s) {
        Sheet sheet = sheet(s);
        float score = 0f;
        for (int l = 0; l < rows.size(); l++) {
            if (seenWithTokens(l) && rows.get(l).seen.equals(sheet.columns.get(l))) {
                float weight = 1f;
                for (int i = 0; i < sheet.depths.get(l) && i < 12; i++) {
                    weight = weight / 2f;
                }
                score = score + weight;
            }
        }
        return score;
    }

    int score(int step, int hang, int align, int out, int what) {
        int[] s = {step, hang, align, out};
        if (!isStyle(s) || what < 0 || what > 1) {
            return -2;
        }
        return what == 0 ? Float.floatToIntBits(weighed(s)) : (int) (1000f * weighed(s));
    }

    private int[] best() {
        int[] best = null;
        for (int step = 1; step <= 8; step++) {
            for (int hang = 1; hang <= 8; hang++) {
                for (int rest = 0; rest < 4; rest++) {
                    int[] s = {step, hang, rest / 2, rest % 2};
                    if (best == null || weighed(s) > weighed(best)) {
                        best = s;
                    }
                }
            }
        }
        return best;
    }

    private boolean noneSeen() {
        for (int l = 0; l < rows.size(); l++) {
            if (seenWithTokens(l)) {
                return false;
            }
        }
        return true;
    }

    int guess(int what) {
        if (what < 0 || what > 4) {
            return -2;
        }
        if (noneSeen()) {
            return -3;
        }
        int[] best = best();
        return what == 4 ? Float.floatToIntBits(weighed(best)) : best[what];
    }

    int follow() {
        if (noneSeen()) {
            return -3;
        }
        List<Integer> before = sheet(style).columns;
        style = best();
        return differing(before, sheet(style).columns);
    }

    int pocket(int p, int kind, int n) {
        if (p < 0 || p > 2) {
            return -1;
        }
        if (kind < 0 || kind > 3 || n < 1 || n > 6) {
            return -2;
        }
        bags[p] = new Bag(kind, n);
        return 1;
    }

    int store(int p, int cell, int c) {
        List<Opener> openers = sheet(style).openers;
        if (p < 0 || p > 2 || c < 0 || c >= openers.size()) {
            return -1;
        }
        Bag bag = bags[p];
        if (bag == null) {
            return -3;
        }
        if (cell < 0 || cell >= bag.cells.length) {
            return -13;
        }
        int kind = openers.get(c).kind;
        boolean taken = bag.kind == 0 || (bag.kind == 1 && kind == 1) || (bag.kind == 2 && kind >= 2)
            || (bag.kind == 3 && kind == 3);
        if (!taken) {
            return -11;
        }
        bag.cells[cell] = openers.get(c);
        return 1;
    }

    int copy(int from, int to) {
        if (from < 0 || from > 2 || to < 0 || to > 2) {
            return -1;
        }
        if (bags[from] == null) {
            return -3;
        }
        Bag like = new Bag(bags[from].kind, bags[from].cells.length);
        for (int i = 0; i < like.cells.length; i++) {
            like.cells[i] = bags[from].cells[i];
        }
        bags[to] = like;
        return 1;
    }

    int ofPocket(int p, int cell, int what) {
        if (p < 0 || p > 2) {
            return -1;
        }
        if (what < 0 || what > 2) {
            return -2;
        }
        if (bags[p] == null) {
            return -3;
        }
        if (cell < 0 || cell >= bags[p].cells.length) {
            return -13;
        }
        Opener o = bags[p].cells[cell];
        return o == null ? NONE : what == 0 ? o.line : what == 1 ? o.at : o.kind;
    }

    int many(int what) {
        Sheet sheet = sheet(style);
        int alone = (int) sheet.openers.stream().filter(o -> o.partner == NONE).count();
        int strays = sheet.strays.stream().mapToInt(Integer::intValue).sum();
        int seen = (int) rows.stream().filter(row -> row.seen != null).count();
        int tokens = rows.stream().mapToInt(row -> row.tokens.length()).sum();
        int[] facts = {rows.size(), sheet.openers.size(), alone, strays, seen, tokens};
        return what < 0 || what > 5 ? -2 : facts[what];
    }
}
