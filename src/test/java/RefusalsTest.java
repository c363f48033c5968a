import java.util.function.Supplier;
import java.util.function.ToIntFunction;

/**
 * "Of a call's line the first that fits is answered, in the order told there; they change nothing": every
 * refusal of every call, each two that fit together, and that all of them leave the object as it was.
 */
public final class RefusalsTest {
    private static final int NONE = IndentRules.NONE;
    private static final int UNKNOWN = IndentRules.UNKNOWN;
    private static final int OUTSIDE = IndentRules.OUTSIDE;
    private static final int STATE = IndentRules.STATE;
    private static final int FULL = IndentRules.FULL;
    private static final int KIND = IndentRules.KIND;
    private static final int INDEX = IndentRules.INDEX;

    public static void main(String[] args) {
        put();
        putWhenFull();
        change();
        take();
        style();
        ofLine();
        opener();
        unlike();
        see();
        fits();
        score();
        guess();
        follow();
        pocket();
        store();
        storeByKind();
        copy();
        ofPocket();
        many();
        refusalsInARow();
        askingChangesNothing();
        Due.finish();
    }

    private static void refused(String call, Supplier<IndentRules> state, ToIntFunction<IndentRules> asked, int refusal) {
        Edges.refused(call, state, asked, refusal);
    }

    private static void inAll(String call, ToIntFunction<IndentRules> asked, int refusal) {
        for (String name : States.NAMES) {
            refused(call + ", " + name, States.named(name), asked, refusal);
        }
    }

    // ---- 1 lines

    /** "UNKNOWN: at is not 0 .. how many there are; OUTSIDE: the TOKENS; FULL" */
    private static void put() {
        inAll("put(21, 8): UNKNOWN", x -> x.put(21, 8), UNKNOWN);
        inAll("put(-1, 8): UNKNOWN", x -> x.put(-1, 8), UNKNOWN);
        inAll("put(21, 10): UNKNOWN, OUTSIDE", x -> x.put(21, 10), UNKNOWN);
        inAll("put(-1, -1): UNKNOWN, OUTSIDE", x -> x.put(-1, -1), UNKNOWN);
        inAll("put(0, 10): OUTSIDE", x -> x.put(0, 10), OUTSIDE);
        inAll("put(0, -1): OUTSIDE", x -> x.put(0, -1), OUTSIDE);
    }

    private static void putWhenFull() {
        refused("put(20, 8): FULL", States::full, x -> x.put(20, 8), FULL);
        refused("put(0, 8): FULL", States::full, x -> x.put(0, 8), FULL);
        refused("put(0, 0): FULL", States::full, x -> x.put(0, 0), FULL);
        refused("put(20, 10): OUTSIDE, FULL", States::full, x -> x.put(20, 10), OUTSIDE);
        refused("put(21, 8): UNKNOWN, FULL", States::full, x -> x.put(21, 8), UNKNOWN);
        refused("put(21, 10): UNKNOWN, OUTSIDE, FULL", States::full, x -> x.put(21, 10), UNKNOWN);
        IndentRules x = States.full();
        x.take(19);
        Due.due("one was taken: room for one", x.put(19, 8), 0);
        Due.due("and for no more", x.put(20, 8), FULL);
        Due.due("a change needs no room", x.change(19, 18), 0);
    }

    private static void change() {
        inAll("change(20, 8): UNKNOWN", x -> x.change(20, 8), UNKNOWN);
        inAll("change(-1, 8): UNKNOWN", x -> x.change(-1, 8), UNKNOWN);
        inAll("change(20, 10): UNKNOWN, OUTSIDE", x -> x.change(20, 10), UNKNOWN);
        refused("change(0, 8), no lines", States::empty, x -> x.change(0, 8), UNKNOWN);
        refused("change(10, 8): as many as there are", States::ordinary, x -> x.change(10, 8), UNKNOWN);
        refused("change(0, 10): OUTSIDE", States::ordinary, x -> x.change(0, 10), OUTSIDE);
        refused("change(19, 10): OUTSIDE", States::full, x -> x.change(19, 10), OUTSIDE);
    }

    private static void take() {
        inAll("take(20): UNKNOWN", x -> x.take(20), UNKNOWN);
        inAll("take(-1): UNKNOWN", x -> x.take(-1), UNKNOWN);
        refused("take(0), no lines", States::empty, x -> x.take(0), UNKNOWN);
        refused("take(0), no lines any more", States::emptied, x -> x.take(0), UNKNOWN);
        refused("take(10): as many as there are", States::ordinary, x -> x.take(10), UNKNOWN);
    }

    private static void style() {
        inAll("style(4, 1): UNKNOWN", x -> x.style(4, 1), UNKNOWN);
        inAll("style(-1, 1): UNKNOWN", x -> x.style(-1, 1), UNKNOWN);
        inAll("style(4, 9): UNKNOWN, OUTSIDE", x -> x.style(4, 9), UNKNOWN);
        inAll("style(-1, -1): UNKNOWN, OUTSIDE", x -> x.style(-1, -1), UNKNOWN);
        for (int k = 0; k < 4; k++) {
            int setting = k;
            inAll("style(" + k + ", too much): OUTSIDE", x -> x.style(setting, setting < 2 ? 9 : 2), OUTSIDE);
            inAll("style(" + k + ", too little): OUTSIDE", x -> x.style(setting, setting < 2 ? 0 : -1), OUTSIDE);
        }
    }

    // ---- 2 columns

    private static void ofLine() {
        inAll("ofLine(20, 0): UNKNOWN", x -> x.ofLine(20, 0), UNKNOWN);
        inAll("ofLine(-1, 0): UNKNOWN", x -> x.ofLine(-1, 0), UNKNOWN);
        inAll("ofLine(20, 6): UNKNOWN, OUTSIDE", x -> x.ofLine(20, 6), UNKNOWN);
        refused("ofLine(0, 6): OUTSIDE", States::ordinary, x -> x.ofLine(0, 6), OUTSIDE);
        refused("ofLine(0, -1): OUTSIDE", States::full, x -> x.ofLine(0, -1), OUTSIDE);
        refused("ofLine(5, 6): OUTSIDE, without tokens", States::ordinary, x -> x.ofLine(5, 6), OUTSIDE);
    }

    private static void opener() {
        inAll("opener(180, 0): UNKNOWN", x -> x.opener(180, 0), UNKNOWN);
        inAll("opener(-1, 0): UNKNOWN", x -> x.opener(-1, 0), UNKNOWN);
        inAll("opener(180, 6): UNKNOWN, OUTSIDE", x -> x.opener(180, 6), UNKNOWN);
        refused("opener(0, 0), none", States::empty, x -> x.opener(0, 0), UNKNOWN);
        refused("opener(0, 0), none any more", States::emptied, x -> x.opener(0, 0), UNKNOWN);
        refused("opener(4, 0): as many as there are", States::ordinary, x -> x.opener(4, 0), UNKNOWN);
        refused("opener(0, 6): OUTSIDE", States::ordinary, x -> x.opener(0, 6), OUTSIDE);
        refused("opener(179, -1): OUTSIDE", States::full, x -> x.opener(179, -1), OUTSIDE);
    }

    private static void unlike() {
        inAll("unlike(20): UNKNOWN", x -> x.unlike(20), UNKNOWN);
        inAll("unlike(-1): UNKNOWN", x -> x.unlike(-1), UNKNOWN);
        inAll("unlike(NONE): UNKNOWN", x -> x.unlike(NONE), UNKNOWN);
        refused("unlike(0), no lines", States::empty, x -> x.unlike(0), UNKNOWN);
        refused("unlike(10): as many as there are", States::ordinary, x -> x.unlike(10), UNKNOWN);
    }

    // ---- 3 styles

    private static void see() {
        inAll("see(20, 0): UNKNOWN", x -> x.see(20, 0), UNKNOWN);
        inAll("see(-1, NONE): UNKNOWN", x -> x.see(-1, NONE), UNKNOWN);
        inAll("see(20, 201): UNKNOWN, OUTSIDE", x -> x.see(20, 201), UNKNOWN);
        refused("see(0, 201): OUTSIDE", States::ordinary, x -> x.see(0, 201), OUTSIDE);
        refused("see(5, -1): OUTSIDE, without tokens", States::ordinary, x -> x.see(5, -1), OUTSIDE);
        refused("see(19, -10): OUTSIDE", States::full, x -> x.see(19, -10), OUTSIDE);
    }

    private static final int[][] NO_STYLES = {{0, 1, 0, 0}, {9, 1, 0, 0}, {1, 0, 0, 0}, {1, 9, 0, 0}, {1, 1, -1, 0},
        {1, 1, 2, 0}, {1, 1, 0, -1}, {1, 1, 0, 2}, {0, 0, -1, -1}, {9, 9, 2, 2}, {NONE, NONE, NONE, NONE}};

    private static void fits() {
        for (int[] s : NO_STYLES) {
            String call = "fits(" + s[0] + ", " + s[1] + ", " + s[2] + ", " + s[3] + "): OUTSIDE";
            inAll(call, x -> x.fits(s[0], s[1], s[2], s[3]), OUTSIDE);
        }
    }

    private static void score() {
        for (int[] s : NO_STYLES) {
            String call = "score(" + s[0] + ", " + s[1] + ", " + s[2] + ", " + s[3];
            for (int what = -1; what <= 2; what++) {
                int asked = what;
                inAll(call + ", " + what + "): OUTSIDE", x -> x.score(s[0], s[1], s[2], s[3], asked), OUTSIDE);
            }
        }
        inAll("score(1, 1, 0, 0, 2): OUTSIDE", x -> x.score(1, 1, 0, 0, 2), OUTSIDE);
        inAll("score(8, 8, 1, 1, -1): OUTSIDE", x -> x.score(8, 8, 1, 1, -1), OUTSIDE);
    }

    /** Nothing that counts was seen: a line without tokens does not. */
    private static IndentRules seenWithoutTokens() {
        IndentRules x = Due.lines(2, 0, 18);
        x.see(1, 0);
        return x;
    }

    /** "OUTSIDE; STATE: no LINE that has TOKENS was SEEN" */
    private static void guess() {
        inAll("guess(5): OUTSIDE", x -> x.guess(5), OUTSIDE);
        inAll("guess(-1): OUTSIDE", x -> x.guess(-1), OUTSIDE);
        refused("guess(5): OUTSIDE, STATE", RefusalsTest::seenWithoutTokens, x -> x.guess(5), OUTSIDE);
        refused("guess(-1): OUTSIDE, STATE", RefusalsTest::seenWithoutTokens, x -> x.guess(-1), OUTSIDE);
        for (int what = 0; what <= 4; what++) {
            int asked = what;
            String call = "guess(" + what + "): STATE";
            refused(call + ", empty", States::empty, x -> x.guess(asked), STATE);
            refused(call + ", emptied", States::emptied, x -> x.guess(asked), STATE);
            refused(call + ", not seen", () -> Due.lines(2, 8), x -> x.guess(asked), STATE);
            refused(call + ", seen without tokens", RefusalsTest::seenWithoutTokens, x -> x.guess(asked), STATE);
        }
        Due.due("a note is a token", seenNote().guess(0), 1);
    }

    private static IndentRules seenNote() {
        IndentRules x = Due.lines(9);
        x.see(0, 200);
        return x;
    }

    private static void follow() {
        refused("follow(): STATE, empty", States::empty, x -> x.follow(), STATE);
        refused("follow(): STATE, emptied", States::emptied, x -> x.follow(), STATE);
        refused("follow(): STATE, not seen", () -> Due.lines(2, 8), x -> x.follow(), STATE);
        refused("follow(): STATE, seen without tokens", RefusalsTest::seenWithoutTokens, x -> x.follow(), STATE);
        IndentRules x = States.ordinary();
        for (int l = 0; l < 10; l++) {
            x.see(l, NONE);
        }
        Due.due("follow(): STATE, not seen any more", x.follow(), STATE);
        Due.due("STEP is as it was", x.style(0, 1), 3);
        Due.due("a note is a token", seenNote().follow(), 0);
    }

    // ---- 4 pockets

    private static void pocket() {
        inAll("pocket(3, 0, 1): UNKNOWN", x -> x.pocket(3, 0, 1), UNKNOWN);
        inAll("pocket(-1, 0, 1): UNKNOWN", x -> x.pocket(-1, 0, 1), UNKNOWN);
        inAll("pocket(3, 4, 1): UNKNOWN, OUTSIDE", x -> x.pocket(3, 4, 1), UNKNOWN);
        inAll("pocket(-1, 0, 7): UNKNOWN, OUTSIDE", x -> x.pocket(-1, 0, 7), UNKNOWN);
        inAll("pocket(0, 4, 1): OUTSIDE", x -> x.pocket(0, 4, 1), OUTSIDE);
        inAll("pocket(1, -1, 1): OUTSIDE", x -> x.pocket(1, -1, 1), OUTSIDE);
        inAll("pocket(2, 0, 0): OUTSIDE", x -> x.pocket(2, 0, 0), OUTSIDE);
        inAll("pocket(0, 3, 7): OUTSIDE", x -> x.pocket(0, 3, 7), OUTSIDE);
        inAll("pocket(1, 4, 7): OUTSIDE", x -> x.pocket(1, 4, 7), OUTSIDE);
    }

    /** "UNKNOWN: p, c; STATE: the POCKET has nothing; INDEX: there is no such cell; KIND" */
    private static void store() {
        inAll("store(3, 0, 0): UNKNOWN p", x -> x.store(3, 0, 0), UNKNOWN);
        inAll("store(-1, 0, 0): UNKNOWN p", x -> x.store(-1, 0, 0), UNKNOWN);
        inAll("store(3, 6, 180): UNKNOWN p, c, INDEX", x -> x.store(3, 6, 180), UNKNOWN);
        inAll("store(0, 0, 180): UNKNOWN c", x -> x.store(0, 0, 180), UNKNOWN);
        inAll("store(2, 6, -1): UNKNOWN c, STATE or INDEX", x -> x.store(2, 6, -1), UNKNOWN);
        refused("store(0, 0, 0), no openers", States::empty, x -> x.store(0, 0, 0), UNKNOWN);
        refused("store(2, 0, 4): UNKNOWN c, STATE", States::ordinary, x -> x.store(2, 0, 4), UNKNOWN);
        refused("store(0, 2, 4): UNKNOWN c, INDEX", States::ordinary, x -> x.store(0, 2, 4), UNKNOWN);
        refused("store(2, 0, 0): STATE", States::ordinary, x -> x.store(2, 0, 0), STATE);
        refused("store(2, -1, 3): STATE, INDEX", States::ordinary, x -> x.store(2, -1, 3), STATE);
        refused("store(2, 6, 3): STATE, INDEX", States::ordinary, x -> x.store(2, 6, 3), STATE);
        refused("store(0, 2, 1): INDEX", States::ordinary, x -> x.store(0, 2, 1), INDEX);
        refused("store(0, -1, 1): INDEX", States::ordinary, x -> x.store(0, -1, 1), INDEX);
        refused("store(0, 2, 0): INDEX, KIND", States::ordinary, x -> x.store(0, 2, 0), INDEX);
        refused("store(0, -1, 0): INDEX, KIND", States::ordinary, x -> x.store(0, -1, 0), INDEX);
        refused("store(1, 6, 179): INDEX, KIND", States::full, x -> x.store(1, 6, 179), INDEX);
        refused("store(0, 0, 0): KIND, an empty cell", States::ordinary, x -> x.store(0, 0, 0), KIND);
        refused("store(0, 1, 3): KIND, a filled cell", States::ordinary, x -> x.store(0, 1, 3), KIND);
    }

    /** Brace, bracket, aligned bracket into rows of each kind that does not take them. */
    private static void storeByKind() {
        int[][] not = {{1, 1}, {1, 2}, {2, 0}, {3, 0}, {3, 1}, {3, 3}, {2, 3}};
        for (int[] pair : not) {
            Supplier<IndentRules> row = () -> {
                IndentRules x = States.ordinary();
                x.pocket(2, pair[0], 1);
                return x;
            };
            refused("opener " + pair[1] + " into kind " + pair[0], row, x -> x.store(2, 0, pair[1]), KIND);
        }
    }

    /** "UNKNOWN; STATE: that one has nothing" */
    private static void copy() {
        inAll("copy(3, 0): UNKNOWN", x -> x.copy(3, 0), UNKNOWN);
        inAll("copy(-1, 0): UNKNOWN", x -> x.copy(-1, 0), UNKNOWN);
        inAll("copy(0, 3): UNKNOWN", x -> x.copy(0, 3), UNKNOWN);
        inAll("copy(0, -1): UNKNOWN", x -> x.copy(0, -1), UNKNOWN);
        inAll("copy(3, 3): UNKNOWN", x -> x.copy(3, 3), UNKNOWN);
        refused("copy(2, 3): UNKNOWN, STATE", States::ordinary, x -> x.copy(2, 3), UNKNOWN);
        refused("copy(2, -1): UNKNOWN, STATE", States::ordinary, x -> x.copy(2, -1), UNKNOWN);
        refused("copy(2, 0): STATE", States::ordinary, x -> x.copy(2, 0), STATE);
        refused("copy(2, 1): STATE", States::ordinary, x -> x.copy(2, 1), STATE);
        refused("copy(2, 2): STATE", States::ordinary, x -> x.copy(2, 2), STATE);
        for (int pair = 0; pair < 9; pair++) {
            int from = pair / 3;
            int to = pair % 3;
            refused("copy(" + from + ", " + to + "): STATE, empty", States::empty, x -> x.copy(from, to), STATE);
        }
    }

    /** "UNKNOWN; OUTSIDE: what; STATE: the POCKET has nothing; INDEX" */
    private static void ofPocket() {
        inAll("ofPocket(3, 0, 0): UNKNOWN", x -> x.ofPocket(3, 0, 0), UNKNOWN);
        inAll("ofPocket(-1, 0, 0): UNKNOWN", x -> x.ofPocket(-1, 0, 0), UNKNOWN);
        inAll("ofPocket(3, 0, 3): UNKNOWN, OUTSIDE", x -> x.ofPocket(3, 0, 3), UNKNOWN);
        inAll("ofPocket(3, 6, 3): UNKNOWN, OUTSIDE, INDEX", x -> x.ofPocket(3, 6, 3), UNKNOWN);
        inAll("ofPocket(0, 0, 3): OUTSIDE", x -> x.ofPocket(0, 0, 3), OUTSIDE);
        inAll("ofPocket(0, 6, -1): OUTSIDE, INDEX", x -> x.ofPocket(0, 6, -1), OUTSIDE);
        refused("ofPocket(2, 0, 3): OUTSIDE, STATE", States::ordinary, x -> x.ofPocket(2, 0, 3), OUTSIDE);
        refused("ofPocket(2, 6, 3): OUTSIDE, STATE, INDEX", States::ordinary, x -> x.ofPocket(2, 6, 3), OUTSIDE);
        refused("ofPocket(2, 0, 0): STATE", States::ordinary, x -> x.ofPocket(2, 0, 0), STATE);
        refused("ofPocket(2, 6, 2): STATE, INDEX", States::ordinary, x -> x.ofPocket(2, 6, 2), STATE);
        refused("ofPocket(2, -1, 1): STATE, INDEX", States::ordinary, x -> x.ofPocket(2, -1, 1), STATE);
        refused("ofPocket(0, 2, 0): INDEX", States::ordinary, x -> x.ofPocket(0, 2, 0), INDEX);
        refused("ofPocket(0, -1, 2): INDEX", States::ordinary, x -> x.ofPocket(0, -1, 2), INDEX);
        refused("ofPocket(1, 6, 1): INDEX", States::full, x -> x.ofPocket(1, 6, 1), INDEX);
    }

    private static void many() {
        inAll("many(6): OUTSIDE", x -> x.many(6), OUTSIDE);
        inAll("many(-1): OUTSIDE", x -> x.many(-1), OUTSIDE);
    }

    // ---- all calls

    /** Many refused calls, one after another, leave as little behind as one does. */
    private static void refusalsInARow() {
        for (String name : States.NAMES) {
            refused("refusals in a row, " + name, States.named(name), RefusalsTest::allRefused, 0);
        }
    }

    /** How many of these calls are not refused. */
    private static int allRefused(IndentRules x) {
        int[] answers = {x.put(-1, 1), x.put(0, 10), x.change(20, 2), x.change(0, -1), x.take(20), x.style(4, 1), x.style(0, 9),
            x.ofLine(20, 1), x.opener(180, 1), x.unlike(20), x.see(20, 1), x.see(0, 201), x.fits(1, 1, 1, 2), x.guess(5),
            x.score(8, 8, 1, 1, 2), x.pocket(3, 1, 1), x.pocket(2, 1, 7), x.store(0, 0, 180), x.store(0, -1, 0), x.copy(0, 3),
            x.copy(3, 0), x.ofPocket(3, 0, 0), x.ofPocket(0, -1, 0), x.many(6)};
        int taken = 0;
        for (int answer : answers) {
            if (answer >= 0 || answer == NONE) {
                taken++;
            }
        }
        return taken;
    }

    /** What only tells leaves the object as it was, too. */
    private static void askingChangesNothing() {
        for (String name : States.NAMES) {
            Supplier<IndentRules> state = States.named(name);
            Edges.changesNothing("ofLine, " + name, state, x -> x.ofLine(0, 1));
            Edges.changesNothing("opener, " + name, state, x -> x.opener(0, 2));
            Edges.changesNothing("unlike, " + name, state, x -> x.unlike(0));
            Edges.changesNothing("fits, " + name, state, x -> x.fits(7, 6, 0, 1));
            Edges.changesNothing("score, " + name, state, x -> x.score(7, 6, 0, 1, 0));
            Edges.changesNothing("guess, " + name, state, x -> x.guess(4));
            Edges.changesNothing("ofPocket, " + name, state, x -> x.ofPocket(0, 0, 1));
            Edges.changesNothing("many, " + name, state, x -> x.many(2));
        }
    }
}
