import java.util.function.Supplier;

/** Objects for tests of what all calls have in common: each is made anew, by few of its 512 calls. */
final class States {
    private States() {
    }

    static IndentRules empty() {
        return new IndentRules();
    }

    /** Lines came and are all gone again; pockets have nothing. */
    static IndentRules emptied() {
        IndentRules x = Due.lines(124, 35, 2);
        x.see(1, 4);
        x.take(0);
        x.take(1);
        x.take(0);
        return x;
    }

    /**
     * Openers 0 a brace, 1 a bracket that is not aligned, 2 an aligned one, 3 a brace; some lines seen; a
     * style of its own; pocket 0 of brackets with 2 cells, one filled, pocket 1 of all with 6, pocket 2 nothing.
     */
    static IndentRules ordinary() {
        IndentRules x = Due.lines(12, 14, 141, 5, 58, 0, 1935, 3, 3, 72);
        x.style(0, 3);
        x.style(1, 5);
        x.style(3, 1);
        x.see(0, 0);
        x.see(1, 3);
        x.see(5, 2);
        x.see(6, 7);
        x.pocket(0, 2, 2);
        x.store(0, 1, 2);
        x.pocket(1, 0, 6);
        x.store(1, 0, 0);
        x.store(1, 5, 1);
        return x;
    }

    /** 20 lines of 9 openers, all seen; three pockets of 6 cells, all filled. */
    static IndentRules full() {
        IndentRules x = new IndentRules();
        for (int l = 0; l < 20; l++) {
            x.put(l, l % 2 == 0 ? 222222222 : 444444444);
            x.see(l, l * 10);
        }
        for (int p = 0; p < 3; p++) {
            x.pocket(p, p, 6);
            for (int cell = 0; cell < 6; cell++) {
                x.store(p, cell, p == 1 ? cell : 9 + cell);
            }
        }
        return x;
    }

    static final String[] NAMES = {"empty", "emptied", "ordinary", "full"};

    static Supplier<IndentRules> named(String name) {
        return switch (name) {
            case "empty" -> States::empty;
            case "emptied" -> States::emptied;
            case "ordinary" -> States::ordinary;
            default -> States::full;
        };
    }
}
