import java.util.ArrayList;
import java.util.List;

/**
 * All texts of two lines of 0 .. 2 tokens with a third line below them that begins with each token, and each text by
 * another of the 256 styles, compared with Reference.
 */
public final class ShortTextsTest {
    private static final int STYLES = 256;

    public static void main(String[] args) {
        List<Integer> lines = shortLines();
        int style = 0;
        for (int first : lines) {
            for (int second : lines) {
                for (int third = 1; third <= 9; third++) {
                    compare(first, second, third, style);
                    style = (style + 1) % STYLES;
                }
            }
        }
        everyStyle();
        Due.finish();
    }

    private static List<Integer> shortLines() {
        List<Integer> lines = new ArrayList<>();
        for (int tokens = 0; tokens <= 99; tokens++) {
            if (tokens == 0 || tokens % 10 != 0) {
                lines.add(tokens);
            }
        }
        return lines;
    }

    /** Texts in which each setting moves a line, by all styles. */
    private static void everyStyle() {
        for (int style = 0; style < STYLES; style++) {
            compare(2, 3, 8, style);
            compare(27, 8, 3, style);
            compare(21, 41, 5, style);
            compare(24, 18, 5, style);
            compare(42, 71, 3, style);
        }
    }

    private static void compare(int first, int second, int third, int style) {
        IndentRules x = new IndentRules();
        Reference due = new Reference();
        int[] settings = {1 + style / 32, 1 + style / 4 % 8, style / 2 % 2, style % 2};
        String text = first + " " + second + " " + third + " by style " + style + ": ";
        for (int k = 0; k < settings.length; k++) {
            Due.due(text + "style " + k, x.style(k, settings[k]), due.style(k, settings[k]));
        }
        int[] tokens = {first, second, third};
        for (int l = 0; l < tokens.length; l++) {
            Due.due(text + "put " + l, x.put(l, tokens[l]), due.put(l, tokens[l]));
        }
        for (int l = 0; l < tokens.length; l++) {
            Due.due(text + "column " + l, x.ofLine(l, 1), due.ofLine(l, 1));
        }
        Due.due(text + "openers", x.many(1), due.many(1));
        for (int c = 0; c < due.many(1); c++) {
            Due.due(text + "place of " + c, x.opener(c, 2), due.opener(c, 2));
            Due.due(text + "kind of " + c, x.opener(c, 4), due.opener(c, 4));
            Due.due(text + "partner of " + c, x.opener(c, 5), due.opener(c, 5));
        }
        Due.due(text + "strays", x.many(3), due.many(3));
        Due.due(text + "taken again", x.take(0), due.take(0));
    }
}
