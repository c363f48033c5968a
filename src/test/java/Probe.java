import java.util.ArrayList;
import java.util.List;

/**
 * All that an object tells, and what it answers to some calls that change it. Two objects that differ in
 * anything that a call can show answer differently. An object is used up by it: some 400 calls are made.
 */
final class Probe {
    private final IndentRules x;
    private final List<Integer> answers = new ArrayList<>();

    private Probe(IndentRules x) {
        this.x = x;
    }

    static List<Integer> answers(IndentRules x) {
        Probe probe = new Probe(x);
        probe.counts();
        probe.lines();
        probe.openers();
        probe.cells();
        probe.styles();
        probe.kindsOfPockets();
        probe.later();
        return probe.answers;
    }

    private void add(int answer) {
        answers.add(answer);
    }

    private void counts() {
        for (int what = 0; what <= 5; what++) {
            add(x.many(what));
        }
    }

    private void lines() {
        for (int l = 0; l < x.many(0); l++) {
            for (int what = 0; what <= 5; what++) {
                add(x.ofLine(l, what));
            }
        }
        for (int l = 0; l < 20; l += 3) {
            add(x.unlike(l));
        }
    }

    /** Some of them only, where there are many, because of the 512 calls. */
    private void openers() {
        int openers = x.many(1);
        int stride = Math.max(1, openers / 8);
        for (int c = 0; c < openers; c += stride) {
            for (int what = 0; what <= 5; what++) {
                add(x.opener(c, what));
            }
        }
    }

    private void cells() {
        for (int p = 0; p < 3; p++) {
            for (int cell = 0; cell <= 6; cell++) {
                add(x.ofPocket(p, cell, 0));
            }
            for (int cell = 0; cell < 6; cell++) {
                add(x.ofPocket(p, cell, 1));
                add(x.ofPocket(p, cell, 2));
            }
        }
    }

    private void styles() {
        for (int what = 0; what <= 4; what++) {
            add(x.guess(what));
        }
        add(x.fits(3, 5, 1, 1));
        add(x.score(4, 8, 1, 0, 0));
        for (int k = 0; k < 4; k++) {
            int was = x.style(k, 1);
            add(was);
            x.style(k, was);
        }
    }

    /** The kind of a row shows only in what it takes: an opener of each kind is offered to it. */
    private void kindsOfPockets() {
        if (x.many(0) == 20) {
            add(x.take(19));
        }
        add(x.put(0, 2414));
        x.style(2, 1);
        for (int p = 0; p < 3; p++) {
            for (int c = 0; c < 3; c++) {
                add(x.store(p, 0, c));
            }
        }
    }

    private void later() {
        add(x.see(0, 0));
        add(x.follow());
        for (int l = 0; l < x.many(0); l++) {
            add(x.ofLine(l, 1));
        }
    }
}
