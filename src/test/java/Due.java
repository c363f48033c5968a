/** Compares answers with those that are due; a test ends with finish(). */
final class Due {
    private static int asked = 0;
    private static int wrong = 0;

    private Due() {
    }

    static void due(String call, long got, long want) {
        asked++;
        if (got != want) {
            wrong++;
            System.out.println(call + " answered " + got + ", due is " + want);
        }
    }

    static void check(String what, boolean holds) {
        due(what, holds ? 1 : 0, 1);
    }

    /** A new object with these lines, each told by its tokens. */
    static IndentRules lines(int... tokens) {
        IndentRules x = new IndentRules();
        for (int l = 0; l < tokens.length; l++) {
            x.put(l, tokens[l]);
        }
        return x;
    }

    /** What ofLine tells of all lines, one after another. */
    static void ofLines(String name, IndentRules x, int what, int... want) {
        due(name + ": lines", x.many(0), want.length);
        for (int l = 0; l < want.length; l++) {
            due(name + ": ofLine(" + l + ", " + what + ")", x.ofLine(l, what), want[l]);
        }
    }

    /** What opener tells of one opener: its line, token, place, base, kind, partner's line. */
    static void ofOpener(String name, IndentRules x, int c, int... want) {
        for (int what = 0; what < want.length; what++) {
            due(name + ": opener(" + c + ", " + what + ")", x.opener(c, what), want[what]);
        }
    }

    static void finish() {
        System.out.println(wrong == 0 ? asked + " answers are as due" : wrong + " answers are not as due");
        if (wrong != 0) {
            System.exit(1);
        }
    }
}
