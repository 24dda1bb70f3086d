import java.util.function.Consumer;

/** What the tests of single sentences share. No helper makes more than 512 calls on one object. */
final class Sample {
    static final Class<ArrayIndexOutOfBoundsException> INDEX = ArrayIndexOutOfBoundsException.class;
    static final Class<IllegalArgumentException> ARGUMENT = IllegalArgumentException.class;
    static final int[] BOTH_KINDS = {0, 1};
    static final int[] NO_TRIES = {0, 41, -1, -40, Integer.MIN_VALUE, Integer.MAX_VALUE};

    private Sample() {
    }

    static int sideOf(int kind) {
        return kind <= 0 ? 4 : 6;
    }

    static int cellsOf(int kind) {
        return sideOf(kind) * sideOf(kind);
    }

    /** Too small and too large, nearest first. */
    static int[] noCellsOf(int kind) {
        int cells = cellsOf(kind);
        return new int[] {-1, cells, cells + 1, -cells, Integer.MIN_VALUE, Integer.MAX_VALUE};
    }

    static int[] givensOf(SeedMakers made, int cells) {
        int[] givens = new int[cells];
        for (int cell = 0; cell < cells; cell++) {
            givens[cell] = made.given(cell);
        }
        return givens;
    }

    static int[] answerOf(SeedMakers made, int cells) {
        int[] whole = new int[cells];
        for (int cell = 0; cell < cells; cell++) {
            whole[cell] = made.answer(cell);
        }
        return whole;
    }

    static void type(SeedMakers made, String text) {
        for (int i = 0; i < text.length(); i++) {
            made.unit(text.charAt(i));
        }
    }

    static int answersOf(SeedMakers made, String text) {
        type(made, text);
        return made.answers();
    }

    static int answersOf(int kind, String text) {
        return answersOf(new SeedMakers(kind), text);
    }

    static String points(int count) {
        return ".".repeat(count);
    }

    /** Points but for this byte at these cells. */
    static String pointsBut(int kind, char put, int... cells) {
        StringBuilder text = new StringBuilder(points(cellsOf(kind)));
        for (int cell : cells) {
            text.setCharAt(cell, put);
        }
        return text.toString();
    }

    /** A new object with this theme for each cell. */
    static SeedMakers themed(int kind, int what) {
        SeedMakers made = new SeedMakers(kind);
        for (int cell = 0; cell < cellsOf(kind); cell++) {
            made.theme(cell, what);
        }
        return made;
    }

    /** The WHOLE that a try begins with when X is the seed. */
    static int[] wholeBy(int kind, long seed) {
        Oracle rules = new Oracle(kind);
        rules.x = seed;
        return rules.drawWhole();
    }

    /**
     * Four cells of the two upper rows that can have each other's symbols: without them there are two answers, with
     * any one of them one. Null when the whole has none.
     */
    static int[] exchangeable(int kind, int[] whole) {
        int n = sideOf(kind);
        for (int left = 0; left < n / 2; left++) {
            for (int right = n / 2; right < n; right++) {
                if (whole[left] == whole[n + right] && whole[right] == whole[n + left]) {
                    return new int[] {left, right, n + left, n + right};
                }
            }
        }
        return null;
    }

    /** The first seed from this one on whose whole has exchangeable cells. */
    static long seedOfExchangeable(int kind, long from) {
        long seed = from;
        while (exchangeable(kind, wholeBy(kind, seed)) == null) {
            seed++;
        }
        return seed;
    }

    /** All that can be read without changing anything, 9 and 4 times as many calls as there are cells. */
    static String stateOf(SeedMakers made, int kind) {
        StringBuilder state = new StringBuilder();
        for (int what = 0; what <= 6; what++) {
            state.append(made.told(what)).append(' ');
        }
        state.append(made.left()).append(made.text(-1));
        for (int cell = 0; cell < cellsOf(kind); cell++) {
            state.append(' ').append(made.given(cell)).append(made.answer(cell));
            state.append(made.text(cell)).append(made.needed(cell));
        }
        return state.toString();
    }

    /**
     * That these calls do nothing: of two objects with the same calls before, only one has them too, and both have to
     * be alike then, to make alike with what is set, and to count the answers of the same text.
     */
    static void doesNothing(Checks checks, String what, int kind, Consumer<SeedMakers> before,
            Consumer<SeedMakers> refused) {
        SeedMakers one = new SeedMakers(kind);
        SeedMakers other = new SeedMakers(kind);
        before.accept(one);
        before.accept(other);
        refused.accept(one);
        checks.alike(what + ": the state", stateOf(one, kind), stateOf(other, kind));
        checks.same(what + ": the text", one.answers(), other.answers());
        checks.same(what + ": make", one.make(99, 3), other.make(99, 3));
        checks.alike(what + ": what is made", stateOf(one, kind), stateOf(other, kind));
    }

    /** That nothing of a puzzle is to be read. */
    static void noPuzzle(Checks checks, SeedMakers made, int kind) {
        for (int cell = 0; cell < cellsOf(kind); cell++) {
            checks.same("given without a puzzle", made.given(cell), -1);
            checks.same("answer without a puzzle", made.answer(cell), -1);
            checks.same("text without a puzzle", made.text(cell), -1);
            checks.fails("needed without a puzzle", made.needed(cell));
        }
        checks.same("left without a puzzle", made.left(), -1);
        checks.same("givens without a puzzle", made.told(4), 0);
        checks.same("easy without a puzzle", made.told(5), 0);
    }
}
