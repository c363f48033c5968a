import java.util.Random;

/** Runs of 512 calls, the same ones each time, whose answers are compared with those of Reference. */
public final class RandomRunsTest {
    private static final int RUNS = 400;
    private static final int CALLS = 512;
    private static final int[] ODD = {Integer.MIN_VALUE, -13, -9, -1, 7, 21, 201, 1000, Integer.MAX_VALUE};

    private final Random random;
    private final IndentRules x = new IndentRules();
    private final Reference due = new Reference();

    private RandomRunsTest(long seed) {
        random = new Random(seed);
    }

    public static void main(String[] args) {
        for (int run = 0; run < RUNS; run++) {
            RandomRunsTest test = new RandomRunsTest(run);
            for (int call = 0; call < CALLS; call++) {
                test.call("run " + run + ", call " + call + ": ");
            }
        }
        Due.finish();
    }

    /** A number from least to most, or now and then one step or far beside it. */
    private int pick(int least, int most) {
        int chance = random.nextInt(40);
        if (chance == 0) {
            return ODD[random.nextInt(ODD.length)];
        }
        if (chance == 1) {
            return random.nextBoolean() ? least - 1 : most + 1;
        }
        return most < least ? least : least + random.nextInt(most - least + 1);
    }

    private int tokens() {
        if (random.nextInt(30) == 0) {
            return random.nextInt();
        }
        int count = random.nextInt(random.nextInt(4) == 0 ? 10 : 5);
        String likely = random.nextBoolean() ? "123456789" : "1224444355";
        int told = 0;
        for (int i = 0; i < count; i++) {
            told = told * 10 + (likely.charAt(random.nextInt(likely.length())) - '0');
        }
        return told;
    }

    private int line() {
        return pick(0, due.many(0) - 1);
    }

    private int openerNumber() {
        return pick(0, due.many(1) - 1);
    }

    /** Mostly a column by some style near at hand, so that styles have something to fit. */
    private int column(int l) {
        int by = due.ofLine(l, 1);
        return random.nextInt(3) > 0 && by >= 0 ? by + random.nextInt(3) : pick(0, 24);
    }

    private void call(String where) {
        switch (random.nextInt(48)) {
            case 0, 1, 2, 3, 4, 5, 6 -> put(where);
            case 7, 8, 9 -> change(where);
            case 10, 11 -> take(where);
            case 12, 13, 14 -> style(where);
            case 15, 16, 17, 18 -> ofLine(where);
            case 19, 20, 21, 22 -> opener(where);
            case 23, 24 -> unlike(where);
            case 25, 26, 27, 28, 29 -> see(where);
            case 30, 31 -> fits(where);
            case 32, 33 -> score(where);
            case 34 -> guess(where);
            case 35 -> follow(where);
            case 36, 37 -> pocket(where);
            case 38, 39, 40 -> store(where);
            case 41 -> copy(where);
            case 42, 43, 44 -> ofPocket(where);
            default -> many(where);
        }
    }

    private void put(String where) {
        int at = pick(0, due.many(0));
        int tokens = tokens();
        Due.due(where + "put(" + at + ", " + tokens + ")", x.put(at, tokens), due.put(at, tokens));
    }

    private void change(String where) {
        int l = line();
        int tokens = tokens();
        Due.due(where + "change(" + l + ", " + tokens + ")", x.change(l, tokens), due.change(l, tokens));
    }

    private void take(String where) {
        int l = line();
        Due.due(where + "take(" + l + ")", x.take(l), due.take(l));
    }

    private void style(String where) {
        int k = pick(0, 3);
        int v = k < 2 ? pick(1, 8) : pick(0, 1);
        Due.due(where + "style(" + k + ", " + v + ")", x.style(k, v), due.style(k, v));
    }

    private void ofLine(String where) {
        int l = line();
        int what = pick(0, 5);
        Due.due(where + "ofLine(" + l + ", " + what + ")", x.ofLine(l, what), due.ofLine(l, what));
    }

    private void opener(String where) {
        int c = openerNumber();
        int what = pick(0, 5);
        Due.due(where + "opener(" + c + ", " + what + ")", x.opener(c, what), due.opener(c, what));
    }

    private void unlike(String where) {
        int l = line();
        Due.due(where + "unlike(" + l + ")", x.unlike(l), due.unlike(l));
    }

    private void see(String where) {
        int l = line();
        int v = random.nextInt(9) == 0 ? IndentRules.NONE : column(l);
        Due.due(where + "see(" + l + ", " + v + ")", x.see(l, v), due.see(l, v));
    }

    private void fits(String where) {
        int[] s = {pick(1, 8), pick(1, 8), pick(0, 1), pick(0, 1)};
        String call = where + "fits(" + s[0] + ", " + s[1] + ", " + s[2] + ", " + s[3] + ")";
        Due.due(call, x.fits(s[0], s[1], s[2], s[3]), due.fits(s[0], s[1], s[2], s[3]));
    }

    private void score(String where) {
        int[] s = {pick(1, 8), pick(1, 8), pick(0, 1), pick(0, 1)};
        int what = pick(0, 1);
        String call = where + "score(" + s[0] + ", " + s[1] + ", " + s[2] + ", " + s[3] + ", " + what + ")";
        Due.due(call, x.score(s[0], s[1], s[2], s[3], what), due.score(s[0], s[1], s[2], s[3], what));
    }

    private void guess(String where) {
        int what = pick(0, 4);
        Due.due(where + "guess(" + what + ")", x.guess(what), due.guess(what));
    }

    private void follow(String where) {
        Due.due(where + "follow()", x.follow(), due.follow());
    }

    private void pocket(String where) {
        int p = pick(0, 2);
        int kind = pick(0, 3);
        int n = pick(1, 6);
        Due.due(where + "pocket(" + p + ", " + kind + ", " + n + ")", x.pocket(p, kind, n), due.pocket(p, kind, n));
    }

    private void store(String where) {
        int p = pick(0, 2);
        int cell = pick(0, 3);
        int c = openerNumber();
        Due.due(where + "store(" + p + ", " + cell + ", " + c + ")", x.store(p, cell, c), due.store(p, cell, c));
    }

    private void copy(String where) {
        int from = pick(0, 2);
        int to = pick(0, 2);
        Due.due(where + "copy(" + from + ", " + to + ")", x.copy(from, to), due.copy(from, to));
    }

    private void ofPocket(String where) {
        int p = pick(0, 2);
        int cell = pick(0, 3);
        int what = pick(0, 2);
        String call = where + "ofPocket(" + p + ", " + cell + ", " + what + ")";
        Due.due(call, x.ofPocket(p, cell, what), due.ofPocket(p, cell, what));
    }

    private void many(String where) {
        int what = pick(0, 5);
        Due.due(where + "many(" + what + ")", x.many(what), due.many(what));
    }
}
