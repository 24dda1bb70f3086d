import java.util.Arrays;

/** The sentences of promises 5 to 10 that name a boundary case, each by itself. */
final class MakeTest {
    private static final Checks CHECKS = new Checks();
    private static final int[] NOTHING_TOLD = {-1, -2, 7, 8, Integer.MIN_VALUE, Integer.MAX_VALUE};

    public static void main(String[] args) {
        atMostSoManyTries();
        leastAndMostTries();
        seedAtFirst();
        goesOnToTheNextTry();
        itIsThePuzzleThen();
        noneIsGood();
        triesAreNotSo();
        givenOfACell();
        givenOfNothing();
        givenOfNoCell();
        answerOfACell();
        answerOfNothing();
        answerOfNoCell();
        toldBefore();
        toldOfTheLatest();
        toldTries();
        toldRestarts();
        toldTakenOut();
        toldPutBack();
        toldGivens();
        toldEasy();
        toldUpperBits();
        toldOthers();
        leftOfEasy();
        leftOfOthers();
        leftWithout();
        neededForOneAnswer();
        neededByASet();
        neededWithoutGivens();
        neededWithoutAPuzzle();
        neededOfNoCell();
        CHECKS.end();
    }

    /** Promise 5: "At most so many tries [..]: how many it took when one is GOOD" */
    private static void atMostSoManyTries() {
        SeedMakers made = new SeedMakers(1);
        made.aim(2, 0, 36);
        CHECKS.same("one is too few", made.make(7, 1), -1);
        CHECKS.same("two are too few", made.make(7, 2), -1);
        CHECKS.same("three are enough", made.make(7, 3), 3);
        CHECKS.same("it stops then", made.make(7, 4), 3);
        CHECKS.same("it stops then", made.make(7, 40), 3);
        CHECKS.same("no more tries are told", made.told(0), 3);
    }

    /** Promise 5: "when tries is not 1 .. 40": both ends of it are fine, and the 40th try can be the GOOD one. */
    private static void leastAndMostTries() {
        for (int kind : Sample.BOTH_KINDS) {
            SeedMakers made = new SeedMakers(kind);
            CHECKS.same("1", made.make(1, 1), 1);
            CHECKS.same("40", made.make(1, 40), 1);
        }
        SeedMakers late = new SeedMakers(1);
        late.aim(2, 9, 9);
        CHECKS.same("39 are too few", late.make(6, 39), -1);
        CHECKS.same("the 40th is good", late.make(6, 40), 40);
        CHECKS.same("tries", late.told(0), 40);
        CHECKS.same("givens", late.told(4), 9);
    }

    /** Promise 5: "with X the seed at first" ("X is told by make()"): with each make() anew, whatever was before. */
    private static void seedAtFirst() {
        for (int kind : Sample.BOTH_KINDS) {
            for (long seed : new long[] {0, 1, -1, Long.MIN_VALUE, Long.MAX_VALUE}) {
                SeedMakers made = new SeedMakers(kind);
                made.make(seed, 1);
                String first = Sample.stateOf(made, kind);
                made.make(~seed, 2);
                made.make(seed, 40);
                CHECKS.alike("the same seed makes the same", Sample.stateOf(made, kind), first);
            }
        }
    }

    /** Promise 5: "(it goes on from one try to the next)" */
    private static void goesOnToTheNextTry() {
        for (int kind : Sample.BOTH_KINDS) {
            int cells = Sample.cellsOf(kind);
            SeedMakers made = new SeedMakers(kind);
            made.aim(0, 0, 0);
            for (int tries = 1; tries <= 40; tries++) {
                made.make(18, tries);
                BigChance due = new BigChance(18).after(tries * (2 * cells - 1));
                CHECKS.same("X after " + tries, made.told(6), due.upperBits());
            }
        }
        Oracle rules = new Oracle(1);
        rules.aimEasy = 2;
        SeedMakers third = new SeedMakers(1);
        third.aim(2, 0, 36);
        CHECKS.same("tries", third.make(7, 3), rules.make(7, 3));
        String got = Arrays.toString(Sample.answerOf(third, 36));
        CHECKS.alike("the third whole", got, Arrays.toString(rules.solution));
        CHECKS.fails("it is not the first", got.equals(Arrays.toString(Sample.wholeBy(1, 7))));
    }

    /** Promise 5: "it is THE PUZZLE then": in the place of the one before, and what is set anew leaves it alone. */
    private static void itIsThePuzzleThen() {
        for (int kind : Sample.BOTH_KINDS) {
            SeedMakers made = new SeedMakers(kind);
            made.make(19, 1);
            made.make(20, 1);
            SeedMakers fresh = new SeedMakers(kind);
            fresh.make(20, 1);
            String due = Sample.stateOf(fresh, kind);
            CHECKS.alike("the latest", Sample.stateOf(made, kind), due);
            made.theme(0, 1);
            made.theme(1, 2);
            made.aim(2, 36, 36);
            made.unit('1');
            made.answers();
            CHECKS.alike("it stays", Sample.stateOf(made, kind), due);
        }
    }

    /** Promise 5: "-1 when none is (there is no PUZZLE then)": that of a make() before is gone, too. */
    private static void noneIsGood() {
        for (int kind : Sample.BOTH_KINDS) {
            int cells = Sample.cellsOf(kind);
            SeedMakers made = new SeedMakers(kind);
            CHECKS.same("one before", made.make(1, 1), 1);
            made.aim(0, cells, cells);
            CHECKS.same("none is good", made.make(1, 2), -1);
            Sample.noPuzzle(CHECKS, made, kind);
            noneIsGoodByThemes(kind);
        }
    }

    /** The tries fail before they have a puzzle at all. */
    private static void noneIsGoodByThemes(int kind) {
        int last = Sample.cellsOf(kind) - 1;
        SeedMakers clash = new SeedMakers(kind);
        clash.theme(0, 1);
        clash.theme(last, 2);
        CHECKS.same("one before", clash.make(1, 1), 1);
        clash.symmetry(1);
        CHECKS.same("a GIVEN cell is among the EMPTY", clash.make(1, 2), -1);
        Sample.noPuzzle(CHECKS, clash, kind);
        SeedMakers empty = new SeedMakers(kind);
        CHECKS.same("one before", empty.make(1, 1), 1);
        for (int cell = 0; cell <= last; cell++) {
            empty.theme(cell, 2);
        }
        CHECKS.same("there is more than one answer", empty.make(1, 2), -1);
        Sample.noPuzzle(CHECKS, empty, kind);
    }

    /** Promise 5: "-2, doing nothing, when tries is not 1 .. 40." */
    private static void triesAreNotSo() {
        for (int kind : Sample.BOTH_KINDS) {
            for (int before = 0; before <= 2; before++) {
                int most = before == 2 ? 0 : 36;
                int makes = before == 0 ? 0 : 1;
                Sample.doesNothing(CHECKS, "tries are not so", kind, made -> {
                    made.aim(0, 0, most);
                    made.unit('.');
                    made.make(22, makes);
                }, made -> {
                    for (int tries : Sample.NO_TRIES) {
                        CHECKS.same("make(1, " + tries + ")", made.make(1, tries), -2);
                    }
                });
            }
        }
    }

    /** Promise 6: "What is given in a cell of THE PUZZLE": the first and the last cell, the least and the last symbol. */
    private static void givenOfACell() {
        for (int kind : Sample.BOTH_KINDS) {
            int cells = Sample.cellsOf(kind);
            int first = 0;
            int last = 0;
            SeedMakers made = new SeedMakers(kind);
            made.theme(0, 1);
            made.theme(cells - 1, 1);
            for (int i = 0; i < 60; i++) {
                long seed = i * 0x9E3779B97F4A7C15L;
                int[] whole = Sample.wholeBy(kind, seed);
                made.make(seed, 1);
                CHECKS.same("the first cell", made.given(0), whole[0]);
                CHECKS.same("the last cell", made.given(cells - 1), whole[cells - 1]);
                first |= 1 << made.given(0);
                last |= 1 << made.given(cells - 1);
            }
            int all = (1 << Sample.sideOf(kind)) - 1;
            CHECKS.holds("each symbol is given", first == all && last == all);
        }
    }

    /** Promise 6: "-1 when nothing is, or there is none." */
    private static void givenOfNothing() {
        for (int kind : Sample.BOTH_KINDS) {
            int cells = Sample.cellsOf(kind);
            SeedMakers made = new SeedMakers(kind);
            for (int cell = 0; cell < cells; cell++) {
                CHECKS.same("there is none yet", made.given(cell), -1);
            }
            made.theme(0, 2);
            made.theme(cells - 1, 2);
            CHECKS.same("make", made.make(2, 1), 1);
            CHECKS.same("nothing is in the first", made.given(0), -1);
            CHECKS.same("nothing is in the last", made.given(cells - 1), -1);
            int nothing = 0;
            for (int cell = 0; cell < cells; cell++) {
                nothing += made.given(cell) == -1 ? 1 : 0;
            }
            CHECKS.same("nothing in all but the givens", nothing, cells - made.told(4));
            made.aim(0, 0, 0);
            made.make(2, 1);
            for (int cell = 0; cell < cells; cell++) {
                CHECKS.same("there is none any more", made.given(cell), -1);
            }
        }
    }

    /** Promise 6: "ArrayIndexOutOfBoundsException: there is no such cell": with a puzzle and without. */
    private static void givenOfNoCell() {
        for (int kind : Sample.BOTH_KINDS) {
            SeedMakers made = new SeedMakers(kind);
            for (int cell : Sample.noCellsOf(kind)) {
                CHECKS.throwsExactly("given(" + cell + ")", Sample.INDEX, () -> made.given(cell));
            }
            made.make(1, 1);
            for (int cell : Sample.noCellsOf(kind)) {
                CHECKS.throwsExactly("given(" + cell + ")", Sample.INDEX, () -> made.given(cell));
            }
        }
    }

    /** Promise 7: "What a cell has in THE PUZZLE's answer": where nothing is given, too. */
    private static void answerOfACell() {
        for (int kind : Sample.BOTH_KINDS) {
            for (long seed = 0; seed < 20; seed++) {
                SeedMakers made = new SeedMakers(kind);
                made.make(seed, 1);
                int[] whole = Sample.wholeBy(kind, seed);
                for (int cell = 0; cell < whole.length; cell++) {
                    CHECKS.same("answer(" + cell + ")", made.answer(cell), whole[cell]);
                }
            }
        }
    }

    /** Promise 7: "-1 when there is none": before the first puzzle and after a make() that was -1. */
    private static void answerOfNothing() {
        for (int kind : Sample.BOTH_KINDS) {
            SeedMakers made = new SeedMakers(kind);
            for (int cell = 0; cell < Sample.cellsOf(kind); cell++) {
                CHECKS.same("there is none yet", made.answer(cell), -1);
            }
            made.make(2, 1);
            made.aim(0, 0, 0);
            made.make(2, 1);
            for (int cell = 0; cell < Sample.cellsOf(kind); cell++) {
                CHECKS.same("there is none any more", made.answer(cell), -1);
            }
        }
    }

    /** Promise 7: "ArrayIndexOutOfBoundsException: there is no such cell": with a puzzle and without. */
    private static void answerOfNoCell() {
        for (int kind : Sample.BOTH_KINDS) {
            SeedMakers made = new SeedMakers(kind);
            for (int cell : Sample.noCellsOf(kind)) {
                CHECKS.throwsExactly("answer(" + cell + ")", Sample.INDEX, () -> made.answer(cell));
            }
            made.make(1, 1);
            for (int cell : Sample.noCellsOf(kind)) {
                CHECKS.throwsExactly("answer(" + cell + ")", Sample.INDEX, () -> made.answer(cell));
            }
        }
    }

    /** Promise 8: "(0 before)": a make() that was -2 is none. */
    private static void toldBefore() {
        for (int kind : Sample.BOTH_KINDS) {
            SeedMakers made = new SeedMakers(kind);
            for (int what = 0; what <= 6; what++) {
                CHECKS.same("told(" + what + ") before", made.told(what), 0);
            }
            made.make(5, 0);
            made.make(5, 41);
            for (int what = 0; what <= 6; what++) {
                CHECKS.same("told(" + what + ") behind -2", made.told(what), 0);
            }
        }
    }

    /** Promise 8: "Of the latest make() that was not -2": of none before it, and of a make() that was -1 too. */
    private static void toldOfTheLatest() {
        int[] good = {1, 0, 16, 4, 4, 1, 608200607};
        SeedMakers made = new SeedMakers(0);
        made.aim(0, 16, 16);
        CHECKS.same("none is good", made.make(3, 5), -1);
        made.aim(0, 0, 16);
        made.make(1, 1);
        made.make(9, 0);
        made.make(9, 41);
        for (int what = 0; what <= 6; what++) {
            CHECKS.same("told(" + what + ")", made.told(what), good[what]);
        }
        made.aim(0, 16, 16);
        made.make(1, 1);
        int[] none = {1, 0, 16, 4, 0, 0, 608200607};
        for (int what = 0; what <= 6; what++) {
            CHECKS.same("of -1: told(" + what + ")", made.told(what), none[what]);
        }
    }

    /** Promise 8: "0 tries" */
    private static void toldTries() {
        SeedMakers made = new SeedMakers(1);
        made.aim(0, 0, 0);
        for (int tries : new int[] {1, 2, 39, 40}) {
            made.make(4, tries);
            CHECKS.same("tries when none is good", made.told(0), tries);
        }
        made.aim(2, 0, 36);
        made.make(7, 40);
        CHECKS.same("tries when the third is good", made.told(0), 3);
    }

    /** Promise 8: "1 RESTARTS of all tries": DeadEndTest shows that there are none. */
    private static void toldRestarts() {
        for (int kind : Sample.BOTH_KINDS) {
            SeedMakers made = new SeedMakers(kind);
            made.aim(0, 0, 0);
            for (long seed = -50; seed < 50; seed++) {
                made.make(seed, 10);
                CHECKS.same("restarts", made.told(1), 0);
            }
        }
    }

    /** Promise 8: "2 sets that were taken out of the row (and put back or not) in all tries" */
    private static void toldTakenOut() {
        for (int kind : Sample.BOTH_KINDS) {
            int cells = Sample.cellsOf(kind);
            SeedMakers made = new SeedMakers(kind);
            made.aim(0, 0, 0);
            for (int tries = 1; tries <= 40; tries++) {
                made.make(23, tries);
                CHECKS.same("sets of " + tries + " tries", made.told(2), tries * cells);
            }
            made.symmetry(3);
            made.theme(0, 2);
            made.make(23, 1);
            CHECKS.same("an EMPTY cell's set is not of the row", made.told(2), cells / 4 - 1);
            CHECKS.same("no set is of the row when all are GIVEN", afterMake(Sample.themed(kind, 1), 40).told(2), 0);
        }
    }

    private static SeedMakers afterMake(SeedMakers made, int tries) {
        made.make(24, tries);
        return made;
    }

    /** Promise 8: "3 those that were put back": in all tries; of one by one the givens that are left. */
    private static void toldPutBack() {
        for (int kind : Sample.BOTH_KINDS) {
            for (long seed = 0; seed < 20; seed++) {
                SeedMakers made = new SeedMakers(kind);
                made.make(seed, 1);
                CHECKS.same("put back", made.told(3), made.told(4));
            }
            Oracle rules = new Oracle(kind);
            rules.aimMost = 0;
            SeedMakers made = new SeedMakers(kind);
            made.aim(0, 0, 0);
            for (int tries = 1; tries <= 5; tries++) {
                rules.make(25, tries);
                made.make(25, tries);
                CHECKS.same("put back in " + tries, made.told(3), rules.told(3));
            }
            CHECKS.same("none is put back when all are GIVEN", afterMake(Sample.themed(kind, 1), 1).told(3), 0);
        }
    }

    /** Promise 8: "4 givens of THE PUZZLE (0 without)" */
    private static void toldGivens() {
        for (int kind : Sample.BOTH_KINDS) {
            int cells = Sample.cellsOf(kind);
            SeedMakers made = new SeedMakers(kind);
            CHECKS.same("without one yet", made.told(4), 0);
            for (long seed = 0; seed < 8; seed++) {
                made.make(seed, 1);
                int givens = 0;
                for (int cell = 0; cell < cells; cell++) {
                    givens += made.given(cell) >= 0 ? 1 : 0;
                }
                CHECKS.same("givens", made.told(4), givens);
            }
            made.aim(0, 0, 0);
            made.make(1, 1);
            CHECKS.same("without one any more", made.told(4), 0);
            CHECKS.same("all are given", afterMake(Sample.themed(kind, 1), 1).told(4), cells);
        }
    }

    /** Promise 8: "5 whether it is EASY (1, 0)": 0 without a puzzle, though the try that failed was EASY. */
    private static void toldEasy() {
        SeedMakers made = new SeedMakers(1);
        CHECKS.same("without one yet", made.told(5), 0);
        made.make(7, 1);
        CHECKS.same("EASY", made.told(5), 1);
        made.aim(2, 0, 36);
        CHECKS.same("the EASY one fails", made.make(7, 1), -1);
        CHECKS.same("without one any more", made.told(5), 0);
        made.make(7, 3);
        CHECKS.same("the third is not EASY", made.told(5), 0);
        CHECKS.holds("it has cells left", made.left() > 0);
    }

    /** Promise 8: "6 the upper 31 bits of X as it is": no other call moves it. */
    private static void toldUpperBits() {
        for (int kind : Sample.BOTH_KINDS) {
            int cells = Sample.cellsOf(kind);
            SeedMakers made = new SeedMakers(kind);
            int largest = 0;
            for (int i = 0; i < 20; i++) {
                long seed = i * 0x9E3779B97F4A7C15L;
                int due = new BigChance(seed).after(2 * cells - 1).upperBits();
                made.make(seed, 1);
                made.symmetry(0);
                made.theme(0, 0);
                made.aim(0, 0, 36);
                made.needed(0);
                made.left();
                made.unit('.');
                made.answers();
                made.make(0, 0);
                CHECKS.same("X by " + seed, made.told(6), due);
                largest = Math.max(largest, due);
            }
            CHECKS.holds("the uppermost bit is among the 31", largest >= 1 << 30);
        }
    }

    /** Promise 8: "-1 for others." */
    private static void toldOthers() {
        for (int kind : Sample.BOTH_KINDS) {
            SeedMakers made = new SeedMakers(kind);
            for (int what : NOTHING_TOLD) {
                CHECKS.same("told(" + what + ") before", made.told(what), -1);
            }
            made.make(1, 1);
            for (int what : NOTHING_TOLD) {
                CHECKS.same("told(" + what + ")", made.told(what), -1);
            }
        }
    }

    /** Promise 9: "(0 when it is EASY)" */
    private static void leftOfEasy() {
        for (int kind : Sample.BOTH_KINDS) {
            SeedMakers made = new SeedMakers(kind);
            made.aim(1, 0, 36);
            for (long seed = 0; seed < 40; seed++) {
                CHECKS.holds("make", made.make(seed, 40) > 0);
                CHECKS.same("left", made.left(), 0);
            }
            CHECKS.same("left when all are given", afterMake(Sample.themed(kind, 1), 1).left(), 0);
        }
    }

    /** Promise 9: "How many cells of THE PUZZLE are not known by singles alone" */
    private static void leftOfOthers() {
        SeedMakers made = new SeedMakers(1);
        made.aim(2, 0, 36);
        int found = 0;
        for (long seed = 0; seed < 12; seed++) {
            if (made.make(seed, 40) > 0) {
                found++;
                int due = new Oracle(1).unknown(Sample.givensOf(made, 36));
                CHECKS.holds("some are not known", due > 0);
                CHECKS.same("left by " + seed, made.left(), due);
            }
        }
        CHECKS.holds("some were found", found > 5);
    }

    /** Promise 9: "-1 without one." */
    private static void leftWithout() {
        for (int kind : Sample.BOTH_KINDS) {
            SeedMakers made = new SeedMakers(kind);
            CHECKS.same("not yet", made.left(), -1);
            made.make(1, 41);
            CHECKS.same("behind -2", made.left(), -1);
            made.make(1, 1);
            CHECKS.holds("with one", made.left() >= 0);
            made.aim(0, 0, 0);
            made.make(1, 1);
            CHECKS.same("no more", made.left(), -1);
        }
    }

    /** Promise 10: "Whether THE PUZZLE without a set's givens (that of a cell) has more than one answer" */
    private static void neededForOneAnswer() {
        for (int kind : Sample.BOTH_KINDS) {
            long seed = Sample.seedOfExchangeable(kind, 0);
            int[] four = Sample.exchangeable(kind, Sample.wholeBy(kind, seed));
            SeedMakers made = Sample.themed(kind, 1);
            made.make(seed, 1);
            CHECKS.fails("one of four that are given", made.needed(four[3]));
            for (int i = 0; i < 3; i++) {
                made.theme(four[i], 2);
            }
            made.make(seed, 1);
            for (int cell = 0; cell < Sample.cellsOf(kind); cell++) {
                CHECKS.same("the last of four alone", made.needed(cell) ? 1 : 0, cell == four[3] ? 1 : 0);
            }
            CHECKS.holds("to ask does not take it out", made.given(four[3]) >= 0);
        }
    }

    /** Promise 10: "without a set's givens (that of a cell)": of all cells that go with it, by the SYMMETRY of now. */
    private static void neededByASet() {
        for (int k = 0; k <= 3; k++) {
            SeedMakers made = new SeedMakers(1);
            Oracle rules = new Oracle(1);
            made.make(26, 1);
            rules.make(26, 1);
            made.symmetry(k);
            rules.symmetry = k;
            int byOthers = 0;
            for (int cell = 0; cell < 36; cell++) {
                CHECKS.same("needed(" + cell + ") by " + k, made.needed(cell) ? 1 : 0, rules.needed(cell) ? 1 : 0);
                byOthers += made.needed(cell) && made.given(cell) < 0 ? 1 : 0;
            }
            CHECKS.holds("an empty cell's set has givens by " + k, k == 0 ? byOthers == 0 : byOthers > 0);
        }
    }

    /** Promise 10: "false when the cell's set has no givens" */
    private static void neededWithoutGivens() {
        for (int kind : Sample.BOTH_KINDS) {
            int cells = Sample.cellsOf(kind);
            for (int k = 0; k <= 3; k++) {
                SeedMakers made = new SeedMakers(kind);
                made.symmetry(k);
                made.make(27, 1);
                int without = 0;
                for (int cell = 0; cell < cells; cell++) {
                    if (made.given(cell) < 0) {
                        without++;
                        CHECKS.fails("needed(" + cell + ") by " + k, made.needed(cell));
                    }
                }
                CHECKS.holds("some have none", without > 0);
            }
        }
    }

    /** Promise 10: "or there is none" */
    private static void neededWithoutAPuzzle() {
        for (int kind : Sample.BOTH_KINDS) {
            SeedMakers made = new SeedMakers(kind);
            for (int cell = 0; cell < Sample.cellsOf(kind); cell++) {
                CHECKS.fails("not yet", made.needed(cell));
            }
            made.make(1, 1);
            made.aim(0, 0, 0);
            made.make(1, 1);
            for (int cell = 0; cell < Sample.cellsOf(kind); cell++) {
                CHECKS.fails("no more", made.needed(cell));
            }
        }
    }

    /** Promise 10: "ArrayIndexOutOfBoundsException: there is no such cell": with a puzzle and without. */
    private static void neededOfNoCell() {
        for (int kind : Sample.BOTH_KINDS) {
            SeedMakers made = new SeedMakers(kind);
            for (int cell : Sample.noCellsOf(kind)) {
                CHECKS.throwsExactly("needed(" + cell + ")", Sample.INDEX, () -> made.needed(cell));
            }
            made.make(1, 1);
            for (int cell : Sample.noCellsOf(kind)) {
                CHECKS.throwsExactly("needed(" + cell + ")", Sample.INDEX, () -> made.needed(cell));
            }
        }
    }
}
