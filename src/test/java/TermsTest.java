/** The sentences of "What it is" and of "Terms" up to the THEME that name a boundary case, each by itself. */
final class TermsTest {
    private static final Checks CHECKS = new Checks();

    public static void main(String[] args) {
        oneAnswer();
        untilItIsMet();
        makesOnly512Times();
        typesOnly512Times();
        isRefusedOnly512Times();
        cellsAreFull();
        boxesEnd();
        cellIsRowByRow();
        notOneButSeen();
        symbolsEnd();
        answerIsFull();
        chanceWrapsAround();
        numberBelowOne();
        setsGoTogether();
        noThemeAtFirst();
        hasToBeGiven();
        hasToBeEmpty();
        CHECKS.end();
    }

    /**
     * "givens taken out in a drawn order as long as there is one answer, in sets that go together": no set is left that
     * could go too.
     */
    private static void oneAnswer() {
        for (int kind : Sample.BOTH_KINDS) {
            for (int k = 0; k <= 3; k++) {
                Oracle rules = new Oracle(kind);
                rules.symmetry = k;
                SeedMakers made = new SeedMakers(kind);
                made.symmetry(k);
                made.make(31 + k, 1);
                int[] givens = Sample.givensOf(made, rules.cells);
                CHECKS.same("one answer", rules.countAnswers(givens.clone(), 2), 1);
                for (int cell = 0; cell < rules.cells; cell++) {
                    if (givens[cell] >= 0) {
                        int[] fewer = givens.clone();
                        rules.setOf(cell).forEach(other -> fewer[other] = -1);
                        CHECKS.same("no set is left that could go", rules.countAnswers(fewer, 2), 2);
                    }
                }
            }
        }
    }

    /**
     * "with places that have to be given or empty, until what is aimed at is met": no try fewer is enough, and what is
     * made is all of it.
     */
    private static void untilItIsMet() {
        int late = 0;
        for (long seed = 0; seed < 40; seed++) {
            SeedMakers made = new SeedMakers(1);
            made.symmetry(1);
            made.theme(0, 1);
            made.theme(2, 2);
            made.aim(1, 10, 12);
            int took = made.make(seed, 40);
            if (took > 1) {
                late++;
                CHECKS.same("one try fewer", made.make(seed, took - 1), -1);
                CHECKS.same("so many", made.make(seed, took), took);
            }
            if (took > 0) {
                CHECKS.holds("given", made.given(0) >= 0 && made.given(35) >= 0);
                CHECKS.holds("empty", made.given(2) < 0 && made.given(33) < 0);
                CHECKS.holds("givens as aimed at", made.told(4) >= 10 && made.told(4) <= 12);
                CHECKS.same("easy as aimed at", made.told(5), 1);
            }
        }
        CHECKS.holds("some were met late", late > 0);
    }

    /** "An object is used for at most 512 calls after it has been made": the last of them, behind the dearest ones. */
    private static void makesOnly512Times() {
        for (int kind : Sample.BOTH_KINDS) {
            int cells = Sample.cellsOf(kind);
            SeedMakers made = new SeedMakers(kind);
            made.aim(0, cells, cells);
            for (int call = 2; call <= 511; call++) {
                CHECKS.same("call " + call, made.make(call, 40), -1);
            }
            BigChance due = new BigChance(511).after(40 * (2 * cells - 1));
            CHECKS.same("call 512", made.told(6), due.upperBits());
        }
    }

    /** "An object is used for at most 512 calls after it has been made": of calls that take a text. */
    private static void typesOnly512Times() {
        SeedMakers made = new SeedMakers(1);
        for (int call = 1; call <= 512; call++) {
            if (call % 37 == 0) {
                CHECKS.same("call " + call, made.answers(), 100);
            } else {
                CHECKS.holds("call " + call, made.unit('.'));
            }
        }
    }

    /** "An object is used for at most 512 calls after it has been made": of calls that are refused. */
    private static void isRefusedOnly512Times() {
        SeedMakers made = new SeedMakers(1);
        CHECKS.same("call 1", made.make(7, 1), 1);
        int upper = made.told(6);
        for (int call = 3; call <= 511; call++) {
            CHECKS.throwsExactly("call " + call, Sample.INDEX, () -> made.given(36));
        }
        CHECKS.same("call 512", made.told(6), upper);
    }

    /** "A GRID of kind 0 has 4 by 4 CELLS and boxes of 2 by 2, of kind 1 6 by 6": the last cell, and none behind it. */
    private static void cellsAreFull() {
        for (int kind : Sample.BOTH_KINDS) {
            int cells = kind == 0 ? 16 : 36;
            SeedMakers made = new SeedMakers(kind);
            made.make(3, 1);
            CHECKS.holds("the first cell has a symbol", made.answer(0) >= 0);
            CHECKS.holds("the last cell has a symbol", made.answer(cells - 1) >= 0);
            CHECKS.throwsExactly("a cell behind the last", Sample.INDEX, () -> made.answer(cells));
            CHECKS.same("sets of one cell each", made.told(2), cells);
            CHECKS.same("so many points", Sample.answersOf(made, Sample.points(cells)), 100);
        }
    }

    /** "boxes of 2 by 2, of kind 1 6 by 6 and boxes 3 wide and 2 high": a box's last cell, and the next ones. */
    private static void boxesEnd() {
        // The box's far corner, then the cells behind it across and down that share no row and no column.
        CHECKS.same("4: far corner", Sample.answersOf(0, Sample.pointsBut(0, '1', 0, 5)), -6);
        CHECKS.holds("4: across", Sample.answersOf(0, Sample.pointsBut(0, '1', 0, 6)) > 0);
        CHECKS.holds("4: down", Sample.answersOf(0, Sample.pointsBut(0, '1', 0, 9)) > 0);
        CHECKS.same("4: last box", Sample.answersOf(0, Sample.pointsBut(0, '1', 10, 15)), -16);
        CHECKS.holds("4: before the last box", Sample.answersOf(0, Sample.pointsBut(0, '1', 9, 15)) > 0);
        CHECKS.same("6: far corner", Sample.answersOf(1, Sample.pointsBut(1, '1', 0, 8)), -9);
        CHECKS.holds("6: across", Sample.answersOf(1, Sample.pointsBut(1, '1', 0, 9)) > 0);
        CHECKS.holds("6: down", Sample.answersOf(1, Sample.pointsBut(1, '1', 0, 13)) > 0);
        CHECKS.same("6: last box", Sample.answersOf(1, Sample.pointsBut(1, '1', 27, 35)), -36);
        CHECKS.holds("6: before the last box", Sample.answersOf(1, Sample.pointsBut(1, '1', 26, 35)) > 0);
    }

    /** "n is 4 or 6; cell (x, y) is n y + x": the last of a row and the first of the next do not share it. */
    private static void cellIsRowByRow() {
        for (int kind : Sample.BOTH_KINDS) {
            int n = Sample.sideOf(kind);
            for (int y = 0; y < n; y++) {
                int first = n * y;
                int last = n * y + n - 1;
                CHECKS.same("a row's ends", Sample.answersOf(kind, Sample.pointsBut(kind, '2', first, last)), -1 - last);
                if (y < n - 1) {
                    String text = Sample.pointsBut(kind, '2', last, last + 1);
                    CHECKS.holds("over a row's end", Sample.answersOf(kind, text) > 0);
                }
                int below = n * (n - 1) + y;
                CHECKS.same("a column's ends", Sample.answersOf(kind, Sample.pointsBut(kind, '2', y, below)), -1 - below);
            }
        }
    }

    /** "Two cells SEE each other when they are not one and share a row, a column or a box." */
    private static void notOneButSeen() {
        for (int kind : Sample.BOTH_KINDS) {
            Oracle rules = new Oracle(kind);
            for (int b = 0; b < rules.cells; b++) {
                CHECKS.holds("no cell sees itself", Sample.answersOf(kind, Sample.pointsBut(kind, '3', b)) > 0);
                for (int a = 0; a < b; a++) {
                    int got = Sample.answersOf(kind, Sample.pointsBut(kind, '3', a, b));
                    if (rules.sees(a, b)) {
                        CHECKS.same(a + " sees " + b, got, -1 - b);
                    } else {
                        CHECKS.holds(a + " does not see " + b, got > 0);
                    }
                }
            }
        }
    }

    /** "SYMBOLS 0 .. n - 1." */
    private static void symbolsEnd() {
        for (int kind : Sample.BOTH_KINDS) {
            int n = Sample.sideOf(kind);
            for (long seed = 0; seed < 20; seed++) {
                SeedMakers made = new SeedMakers(kind);
                made.make(seed, 1);
                for (int y = 0; y < n; y++) {
                    int had = 0;
                    for (int x = 0; x < n; x++) {
                        int symbol = made.answer(n * y + x);
                        CHECKS.holds("symbol " + symbol, symbol >= 0 && symbol <= n - 1);
                        had |= 1 << symbol;
                    }
                    CHECKS.same("all symbols are in a row", had, (1 << n) - 1);
                }
            }
        }
    }

    /**
     * "An ANSWER of some givens has a symbol in each cell, the givens' where there are some, no two cells that see each
     * other alike."
     */
    private static void answerIsFull() {
        for (int kind : Sample.BOTH_KINDS) {
            Oracle rules = new Oracle(kind);
            for (long seed = 20; seed < 40; seed++) {
                SeedMakers made = new SeedMakers(kind);
                made.make(seed, 1);
                int[] whole = Sample.answerOf(made, rules.cells);
                for (int cell = 0; cell < rules.cells; cell++) {
                    CHECKS.holds("a symbol in each cell", whole[cell] >= 0);
                    CHECKS.holds("the givens'", made.given(cell) < 0 || made.given(cell) == whole[cell]);
                    for (int other = 0; other < cell; other++) {
                        CHECKS.fails("alike", rules.sees(cell, other) && whole[other] == whole[cell]);
                    }
                }
            }
        }
        CHECKS.same("a whole one is its only answer", Sample.answersOf(0, "1234341221434321"), 1);
        CHECKS.same("none has a symbol for the last of the row", Sample.answersOf(0, "123....4........"), 0);
    }

    /**
     * "X becomes 6364136223846793005 X + 1442695040888963407 (64 bits), then it is the upper 31 bits of X modulo k":
     * the least and the largest seeds wrap around, and the upper bits are never below 0.
     */
    private static void chanceWrapsAround() {
        long[] seeds = {0, 1, -1, 2, -2, Long.MAX_VALUE, Long.MIN_VALUE, Long.MAX_VALUE - 1, Long.MIN_VALUE + 1,
            1L << 32, 1L << 33, (1L << 33) - 1, -(1L << 33)};
        for (int kind : Sample.BOTH_KINDS) {
            int cells = Sample.cellsOf(kind);
            int large = 0;
            for (long seed : seeds) {
                SeedMakers made = new SeedMakers(kind);
                CHECKS.same("make by " + seed, made.make(seed, 1), 1);
                CHECKS.same("the first number by " + seed, made.answer(0), new BigChance(seed).below(Sample.sideOf(kind)));
                int upper = new BigChance(seed).after(2 * cells - 1).upperBits();
                CHECKS.same("X by " + seed, made.told(6), upper);
                large += upper >= 1 << 30 ? 1 : 0;
            }
            CHECKS.holds("some X are below 0 as a long", large > 0);
        }
    }

    /**
     * "A number below k": below 1 too, X goes on, though there is no choice. All cells GIVEN leaves the whole's numbers
     * alone, one for each cell.
     */
    private static void numberBelowOne() {
        for (int kind : Sample.BOTH_KINDS) {
            SeedMakers made = Sample.themed(kind, 1);
            for (long seed = -5; seed < 5; seed++) {
                made.make(seed, 1);
                BigChance due = new BigChance(seed).after(Sample.cellsOf(kind));
                CHECKS.same("X by " + seed, made.told(6), due.upperBits());
            }
        }
    }

    /**
     * "0 each by itself; 1 (x, y) with (n - 1 - x, n - 1 - y); 2 (x, y) with (n - 1 - x, y); 3 the four that (x, y)
     * comes to by quarter turns, (x, y), (n - 1 - y, x) and so on": an EMPTY cell takes its set with it and no other.
     */
    private static void setsGoTogether() {
        for (int kind : Sample.BOTH_KINDS) {
            for (int k = 0; k <= 3; k++) {
                for (int cell = 0; cell < Sample.cellsOf(kind); cell++) {
                    setOfEmpty(kind, k, cell);
                }
            }
        }
    }

    private static void setOfEmpty(int kind, int k, int cell) {
        int n = Sample.sideOf(kind);
        boolean[] out = new boolean[n * n];
        int x = cell % n;
        int y = cell / n;
        out[cell] = true;
        if (k == 1 || k == 3) {
            out[n * (n - 1 - y) + (n - 1 - x)] = true;
        }
        if (k == 2) {
            out[n * y + (n - 1 - x)] = true;
        }
        if (k == 3) {
            out[n * x + (n - 1 - y)] = true;
            out[n * (n - 1 - x) + y] = true;
        }
        SeedMakers made = new SeedMakers(kind);
        made.symmetry(k);
        for (int other = 0; other < n * n; other++) {
            made.theme(other, other == cell ? 2 : out[other] ? 0 : 1);
        }
        CHECKS.holds("make", made.make(11, 40) > 0);
        for (int other = 0; other < n * n; other++) {
            CHECKS.same("by " + k + " with " + cell + ": " + other, made.given(other) < 0 ? 1 : 0, out[other] ? 1 : 0);
        }
    }

    /** "or neither (0, at first)" */
    private static void noThemeAtFirst() {
        for (int kind : Sample.BOTH_KINDS) {
            int cells = Sample.cellsOf(kind);
            int[] given = new int[cells];
            for (long seed = 0; seed < 60; seed++) {
                SeedMakers fresh = new SeedMakers(kind);
                SeedMakers zeros = Sample.themed(kind, 0);
                fresh.make(seed, 1);
                zeros.make(seed, 1);
                CHECKS.alike("0 as at first", Sample.stateOf(zeros, kind), Sample.stateOf(fresh, kind));
                for (int cell = 0; cell < cells; cell++) {
                    given[cell] += fresh.given(cell) >= 0 ? 1 : 0;
                }
            }
            for (int cell = 0; cell < cells; cell++) {
                CHECKS.holds("neither given nor empty always", given[cell] > 0 && given[cell] < 60);
            }
        }
    }

    /** "A THEME says of a cell that it has to be GIVEN (1)" */
    private static void hasToBeGiven() {
        for (int kind : Sample.BOTH_KINDS) {
            int cells = Sample.cellsOf(kind);
            for (int cell = 0; cell < cells; cell++) {
                SeedMakers made = new SeedMakers(kind);
                made.theme(cell, 1);
                for (long seed = 0; seed < 10; seed++) {
                    CHECKS.same("make", made.make(seed, 1), 1);
                    CHECKS.holds("GIVEN is given", made.given(cell) >= 0);
                    CHECKS.same("it is not in the row", made.told(2), cells - 1);
                }
            }
        }
    }

    /** "EMPTY (2)" */
    private static void hasToBeEmpty() {
        for (int kind : Sample.BOTH_KINDS) {
            int cells = Sample.cellsOf(kind);
            for (int cell = 0; cell < cells; cell++) {
                SeedMakers made = new SeedMakers(kind);
                made.theme(cell, 2);
                for (long seed = 0; seed < 10; seed++) {
                    CHECKS.same("make", made.make(seed, 1), 1);
                    CHECKS.same("EMPTY is empty", made.given(cell), -1);
                    CHECKS.same("it is not in the row", made.told(2), cells - 1);
                }
            }
        }
    }
}
