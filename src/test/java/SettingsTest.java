/** The sentences of promises 1 to 4 that name a boundary case, each by itself. */
final class SettingsTest {
    private static final Checks CHECKS = new Checks();
    private static final int[] NO_SYMMETRIES = {-1, 4, Integer.MIN_VALUE, Integer.MAX_VALUE};
    private static final int[] NO_THEMES = {-1, 3, Integer.MIN_VALUE, Integer.MAX_VALUE};
    private static final int[] NO_EASY = {-1, 3, Integer.MIN_VALUE, Integer.MAX_VALUE};

    public static void main(String[] args) {
        kindsBelowAndAbove();
        newObjectHasNoSymmetry();
        newObjectHasNoThemes();
        newObjectAimsAtAll();
        newObjectHasNothingMade();
        symmetryFromNowOn();
        noSuchSymmetry();
        themeOfACell();
        themeOfNoCell();
        noSuchTheme();
        neitherCellNorTheme();
        aimsAtEasy();
        aimsAtGivens();
        easyIsNotSo();
        leastBelowNone();
        leastAboveMost();
        CHECKS.end();
    }

    /** Promise 1: "kind 0 or 1 (less counts as 0, more as 1)." */
    private static void kindsBelowAndAbove() {
        for (int kind : new int[] {0, -1, -2, Integer.MIN_VALUE}) {
            SeedMakers made = new SeedMakers(kind);
            made.make(3, 1);
            CHECKS.same("kind " + kind + " has 16 cells", made.told(2), 16);
            CHECKS.holds("cell 15", made.answer(15) >= 0);
            CHECKS.throwsExactly("cell 16", Sample.INDEX, () -> made.answer(16));
            SeedMakers least = new SeedMakers(0);
            least.make(3, 1);
            CHECKS.alike("as kind 0", Sample.stateOf(made, 0), Sample.stateOf(least, 0));
        }
        for (int kind : new int[] {1, 2, 3, Integer.MAX_VALUE}) {
            SeedMakers made = new SeedMakers(kind);
            made.make(3, 1);
            CHECKS.same("kind " + kind + " has 36 cells", made.told(2), 36);
            CHECKS.holds("cell 35", made.answer(35) >= 0);
            CHECKS.throwsExactly("cell 36", Sample.INDEX, () -> made.answer(36));
            SeedMakers most = new SeedMakers(1);
            most.make(3, 1);
            CHECKS.alike("as kind 1", Sample.stateOf(made, 1), Sample.stateOf(most, 1));
        }
    }

    /** Promise 1: "No symmetry" */
    private static void newObjectHasNoSymmetry() {
        for (int kind : Sample.BOTH_KINDS) {
            SeedMakers fresh = new SeedMakers(kind);
            SeedMakers told = new SeedMakers(kind);
            told.symmetry(0);
            fresh.make(12, 1);
            told.make(12, 1);
            CHECKS.same("each by itself", fresh.told(2), Sample.cellsOf(kind));
            CHECKS.alike("as by symmetry 0", Sample.stateOf(fresh, kind), Sample.stateOf(told, kind));
        }
    }

    /** Promise 1: "no themes" */
    private static void newObjectHasNoThemes() {
        for (int kind : Sample.BOTH_KINDS) {
            SeedMakers fresh = new SeedMakers(kind);
            SeedMakers told = Sample.themed(kind, 0);
            fresh.make(13, 1);
            told.make(13, 1);
            CHECKS.same("all sets are in the row", fresh.told(2), Sample.cellsOf(kind));
            CHECKS.alike("as with theme 0", Sample.stateOf(fresh, kind), Sample.stateOf(told, kind));
        }
    }

    /** Promise 1: "all is aimed at" */
    private static void newObjectAimsAtAll() {
        for (int kind : Sample.BOTH_KINDS) {
            int easy = 0;
            SeedMakers made = new SeedMakers(kind);
            for (long seed = 0; seed < 100; seed++) {
                CHECKS.same("the first try is good", made.make(seed, 1), 1);
                easy += made.told(5);
            }
            CHECKS.holds("easy ones", easy > 0);
            // Singles are enough for all that these seeds make of 4 by 4.
            CHECKS.holds("others", kind == 0 || easy < 100);
            SeedMakers full = Sample.themed(kind, 1);
            CHECKS.same("as many givens as there are cells", full.make(0, 1), 1);
        }
    }

    /** Promise 1: "nothing is made." */
    private static void newObjectHasNothingMade() {
        for (int kind : Sample.BOTH_KINDS) {
            SeedMakers made = new SeedMakers(kind);
            Sample.noPuzzle(CHECKS, made, kind);
            for (int what = 0; what <= 6; what++) {
                CHECKS.same("told(" + what + ")", made.told(what), 0);
            }
            CHECKS.same("no text", made.answers(), -1);
        }
    }

    /** Promise 2: "The SYMMETRY from now on: true": for all makes then, and the puzzle that is there stays. */
    private static void symmetryFromNowOn() {
        int[] setSizes = {1, 2, 2, 4};
        for (int kind : Sample.BOTH_KINDS) {
            int cells = Sample.cellsOf(kind);
            SeedMakers made = new SeedMakers(kind);
            for (int k : new int[] {0, 3, 1, 2, 0}) {
                CHECKS.holds("symmetry(" + k + ")", made.symmetry(k));
                for (long seed = 0; seed < 3; seed++) {
                    made.make(seed, 1);
                    CHECKS.same("sets by " + k, made.told(2), cells / setSizes[k]);
                }
            }
            int[] givens = Sample.givensOf(made, cells);
            made.symmetry(3);
            for (int cell = 0; cell < cells; cell++) {
                CHECKS.same("the puzzle stays", made.given(cell), givens[cell]);
            }
        }
    }

    /** Promise 2: "false, doing nothing, when there is no such one." */
    private static void noSuchSymmetry() {
        for (int kind : Sample.BOTH_KINDS) {
            for (int k = 0; k <= 3; k++) {
                int kept = k;
                Sample.doesNothing(CHECKS, "no such symmetry", kind, made -> {
                    made.symmetry(kept);
                    made.make(14, 1);
                }, made -> {
                    for (int other : NO_SYMMETRIES) {
                        CHECKS.fails("symmetry(" + other + ")", made.symmetry(other));
                    }
                });
            }
        }
    }

    /** Promise 3: "The THEME of a cell": the latest one, of the first and of the last cell too. */
    private static void themeOfACell() {
        for (int kind : Sample.BOTH_KINDS) {
            int cells = Sample.cellsOf(kind);
            SeedMakers made = new SeedMakers(kind);
            for (int cell : new int[] {0, cells - 1}) {
                made.theme(cell, 2);
                made.theme(cell, 1);
                for (long seed = 0; seed < 20; seed++) {
                    CHECKS.holds("GIVEN", made.make(seed, 1) == 1 && made.given(cell) >= 0);
                }
                made.theme(cell, 2);
                for (long seed = 0; seed < 20; seed++) {
                    CHECKS.holds("EMPTY", made.make(seed, 1) == 1 && made.given(cell) == -1);
                }
                made.theme(cell, 0);
                CHECKS.holds("neither", made.make(1, 1) == 1 && made.told(2) == cells);
            }
        }
    }

    /** Promise 3: "ArrayIndexOutOfBoundsException: there is no such cell." */
    private static void themeOfNoCell() {
        for (int kind : Sample.BOTH_KINDS) {
            for (int what = 0; what <= 2; what++) {
                int theme = what;
                Sample.doesNothing(CHECKS, "theme of no cell", kind, made -> made.make(15, 1), made -> {
                    for (int cell : Sample.noCellsOf(kind)) {
                        CHECKS.throwsExactly("theme of " + cell, Sample.INDEX, () -> made.theme(cell, theme));
                    }
                });
            }
        }
    }

    /** Promise 3: "IllegalArgumentException: there is no such theme." */
    private static void noSuchTheme() {
        for (int kind : Sample.BOTH_KINDS) {
            int last = Sample.cellsOf(kind) - 1;
            Sample.doesNothing(CHECKS, "no such theme", kind, made -> {
                made.theme(0, 1);
                made.theme(last, 2);
                made.make(16, 1);
            }, made -> {
                for (int what : NO_THEMES) {
                    CHECKS.throwsExactly("theme " + what, Sample.ARGUMENT, () -> made.theme(0, what));
                    CHECKS.throwsExactly("theme " + what, Sample.ARGUMENT, () -> made.theme(1, what));
                    CHECKS.throwsExactly("theme " + what, Sample.ARGUMENT, () -> made.theme(last, what));
                }
            });
        }
    }

    /**
     * Promise 3: "ArrayIndexOutOfBoundsException: there is no such cell. IllegalArgumentException: there is no such
     * theme." With neither, the one that the document names first.
     */
    private static void neitherCellNorTheme() {
        SeedMakers made = new SeedMakers(0);
        CHECKS.throwsExactly("both too small", Sample.INDEX, () -> made.theme(-1, -1));
        CHECKS.throwsExactly("both too large", Sample.INDEX, () -> made.theme(16, 3));
    }

    /** Promise 4: "easy 0 (all), 1 (EASY ones alone), 2 (others alone)" */
    private static void aimsAtEasy() {
        SeedMakers made = new SeedMakers(1);
        int[] easy = new int[3];
        int[] good = new int[3];
        for (int aimed = 2; aimed >= 0; aimed--) {
            made.aim(aimed, 0, 36);
            for (long seed = 0; seed < 80; seed++) {
                good[aimed] += made.make(seed, 1) == 1 ? 1 : 0;
                easy[aimed] += made.told(5);
            }
        }
        CHECKS.same("all", good[0], 80);
        CHECKS.same("EASY ones alone", good[1], easy[0]);
        CHECKS.same("EASY ones are told so", easy[1], easy[0]);
        CHECKS.same("others alone", good[2], 80 - easy[0]);
        CHECKS.same("others are told so", easy[2], 0);
        CHECKS.holds("both are among them", easy[0] > 0 && easy[0] < 80);
    }

    /** Promise 4: "and from least to most givens": none at all, one number alone, and more than there are cells. */
    private static void aimsAtGivens() {
        for (int kind : Sample.BOTH_KINDS) {
            int cells = Sample.cellsOf(kind);
            SeedMakers full = Sample.themed(kind, 1);
            int[][] met = {{0, cells}, {cells, cells}, {cells, Integer.MAX_VALUE}, {0, Integer.MAX_VALUE}};
            for (int[] aim : met) {
                full.aim(0, aim[0], aim[1]);
                CHECKS.same("from " + aim[0] + " to " + aim[1], full.make(1, 1), 1);
            }
            int[][] missed = {{0, 0}, {0, cells - 1}, {cells + 1, cells + 1}, {cells + 1, Integer.MAX_VALUE},
                {Integer.MAX_VALUE, Integer.MAX_VALUE}};
            for (int[] aim : missed) {
                full.aim(0, aim[0], aim[1]);
                CHECKS.same("from " + aim[0] + " to " + aim[1], full.make(1, 2), -1);
            }
        }
    }

    private static void aimIsRefused(int easy, int least, int most) {
        for (int kind : Sample.BOTH_KINDS) {
            // An aim that is sometimes missed, so that another one would be seen.
            Sample.doesNothing(CHECKS, "aim is refused", kind, made -> {
                made.aim(kind == 0 ? 1 : 2, 4, kind == 0 ? 4 : 11);
                made.make(17, 3);
            }, made -> CHECKS.throwsExactly("aim " + easy + " " + least + " " + most, Sample.ARGUMENT,
                    () -> made.aim(easy, least, most)));
        }
    }

    /** Promise 4: "IllegalArgumentException: easy is not so" */
    private static void easyIsNotSo() {
        for (int easy : NO_EASY) {
            aimIsRefused(easy, 0, 36);
            aimIsRefused(easy, 0, 0);
        }
    }

    /** Promise 4: "least is below 0" */
    private static void leastBelowNone() {
        for (int easy = 0; easy <= 2; easy++) {
            aimIsRefused(easy, -1, 36);
            aimIsRefused(easy, -1, -1);
            aimIsRefused(easy, Integer.MIN_VALUE, Integer.MAX_VALUE);
        }
    }

    /** Promise 4: "or above most." */
    private static void leastAboveMost() {
        for (int easy = 0; easy <= 2; easy++) {
            aimIsRefused(easy, 1, 0);
            aimIsRefused(easy, 0, -1);
            aimIsRefused(easy, 9, 8);
            aimIsRefused(easy, Integer.MAX_VALUE, Integer.MAX_VALUE - 1);
            aimIsRefused(easy, Integer.MAX_VALUE, Integer.MIN_VALUE);
        }
    }
}
