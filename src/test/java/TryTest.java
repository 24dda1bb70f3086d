import java.util.ArrayList;
import java.util.Arrays;
import java.util.List;

/** The sentences of "Terms" about a TRY that name a boundary case, each by itself. */
final class TryTest {
    private static final Checks CHECKS = new Checks();

    public static void main(String[] args) {
        ofAlikeOnesTheLeast();
        fewestSymbols();
        numberedRising();
        noRestart();
        allAreGivenThen();
        givenAmongEmpty();
        moreThanOneAnswerThen();
        failedTryDrawsNoMore();
        rowOfOthersAlone();
        rowsByLeastCells();
        shortRows();
        lastOfTheRowIsPutBack();
        numberOfGivensAsAimedAt();
        easyAsAimedAt();
        allCellsComeToBeKnown();
        eachSingleCounts();
        CHECKS.end();
    }

    /**
     * "all cells are empty; as long as some is, that empty one with the fewest symbols that it MAY have [..], of alike
     * ones the least": at first all are alike, so that the first row is drawn first and from the left.
     */
    private static void ofAlikeOnesTheLeast() {
        for (int kind : Sample.BOTH_KINDS) {
            int n = Sample.sideOf(kind);
            for (long seed = 0; seed < 50; seed++) {
                SeedMakers made = new SeedMakers(kind);
                made.make(seed, 1);
                BigChance chance = new BigChance(seed);
                List<Integer> rest = new ArrayList<>();
                for (int symbol = 0; symbol < n; symbol++) {
                    rest.add(symbol);
                }
                for (int cell = 0; cell < n; cell++) {
                    int due = rest.remove(chance.below(rest.size()));
                    CHECKS.same("cell " + cell + " by " + seed, made.answer(cell), due);
                }
            }
        }
    }

    /** "that empty one with the fewest symbols that it MAY have (those that no cell that it sees has)" */
    private static void fewestSymbols() {
        for (int kind : Sample.BOTH_KINDS) {
            for (long seed = 100; seed < 200; seed++) {
                SeedMakers made = new SeedMakers(kind);
                made.make(seed, 1);
                String got = Arrays.toString(Sample.answerOf(made, Sample.cellsOf(kind)));
                CHECKS.alike("whole by " + seed, got, Arrays.toString(Sample.wholeBy(kind, seed)));
            }
        }
    }

    /** "else that one of them (rising) with a number below how many they are": the least and the last of them too. */
    private static void numberedRising() {
        for (int kind : Sample.BOTH_KINDS) {
            int n = Sample.sideOf(kind);
            int drawn = 0;
            for (int i = 0; i < 60; i++) {
                long seed = i * 0x9E3779B97F4A7C15L;
                SeedMakers made = new SeedMakers(kind);
                made.make(seed, 1);
                BigChance chance = new BigChance(seed);
                int first = chance.below(n);
                int second = chance.below(n - 1);
                CHECKS.same("symbol by number", made.answer(0), first);
                CHECKS.same("the first one is left out", made.answer(1), second < first ? second : second + 1);
                drawn |= 1 << first;
            }
            CHECKS.same("each symbol is drawn", drawn, (1 << n) - 1);
        }
    }

    /**
     * "when it may have none, a RESTART (all are empty again)" and "With the 200th RESTART the try FAILS": DeadEndTest
     * shows that no choice comes to one, so none may be told and no try may fail by it.
     */
    private static void noRestart() {
        for (int kind : Sample.BOTH_KINDS) {
            SeedMakers made = new SeedMakers(kind);
            for (long seed = 0; seed < 200; seed++) {
                CHECKS.same("no try fails", made.make(seed * 7919, 1), 1);
                CHECKS.same("restarts", made.told(1), 0);
            }
            made.aim(0, 0, 0);
            CHECKS.same("all fail by the aim", made.make(1, 40), -1);
            CHECKS.same("restarts of all tries", made.told(1), 0);
        }
    }

    /** "Then all cells are given." With nothing to be taken out they stay so. */
    private static void allAreGivenThen() {
        for (int kind : Sample.BOTH_KINDS) {
            int cells = Sample.cellsOf(kind);
            SeedMakers made = Sample.themed(kind, 1);
            CHECKS.same("make", made.make(5, 1), 1);
            CHECKS.same("givens", made.told(4), cells);
            CHECKS.same("easy", made.told(5), 1);
            CHECKS.same("left", made.left(), 0);
            for (int cell = 0; cell < cells; cell++) {
                CHECKS.same("given", made.given(cell), made.answer(cell));
            }
        }
    }

    /** "All sets with an EMPTY cell are taken out; the try FAILS when a GIVEN cell is among them" */
    private static void givenAmongEmpty() {
        int[] partners = {0, 15, 3, 12};
        for (int k = 0; k <= 3; k++) {
            for (int partner : partners) {
                SeedMakers made = new SeedMakers(0);
                made.symmetry(k);
                made.theme(0, 2);
                made.theme(partner, 1);
                boolean alone = partner == 0;
                boolean together = k == 1 && partner == 15 || k == 2 && partner == 3 || k == 3;
                CHECKS.same("GIVEN " + partner + " by " + k, made.make(8, 40), together && !alone ? -1 : 1);
                CHECKS.same("tries", made.told(0), together && !alone ? 40 : 1);
            }
        }
    }

    /** "the try FAILS when [..] there is more than one answer then": two answers fail, one does not. */
    private static void moreThanOneAnswerThen() {
        for (int kind : Sample.BOTH_KINDS) {
            for (long from = 0; from < 200; from += 20) {
                long seed = Sample.seedOfExchangeable(kind, from);
                int[] four = Sample.exchangeable(kind, Sample.wholeBy(kind, seed));
                SeedMakers made = Sample.themed(kind, 1);
                for (int i = 0; i < 3; i++) {
                    made.theme(four[i], 2);
                    CHECKS.same("one answer without " + (i + 1), made.make(seed, 1), 1);
                    CHECKS.same("givens", made.told(4), Sample.cellsOf(kind) - 1 - i);
                }
                made.theme(four[3], 2);
                CHECKS.same("two answers without four", made.make(seed, 1), -1);
            }
            SeedMakers empty = Sample.themed(kind, 2);
            CHECKS.same("all EMPTY", empty.make(1, 40), -1);
            CHECKS.same("tries", empty.told(0), 40);
        }
    }

    /** "the try FAILS when [..]": then it lays no row and draws no number for it, and the next try goes on from there. */
    private static void failedTryDrawsNoMore() {
        for (int kind : Sample.BOTH_KINDS) {
            int cells = Sample.cellsOf(kind);
            SeedMakers clash = new SeedMakers(kind);
            clash.symmetry(1);
            clash.theme(0, 1);
            clash.theme(cells - 1, 2);
            SeedMakers empty = Sample.themed(kind, 2);
            for (int tries = 1; tries <= 3; tries++) {
                int due = new BigChance(77).after(tries * cells).upperBits();
                clash.make(77, tries);
                CHECKS.same("X when a GIVEN cell is among them", clash.told(6), due);
                CHECKS.same("no row", clash.told(2), 0);
                empty.make(77, tries);
                CHECKS.same("X when there is more than one answer", empty.told(6), due);
                CHECKS.same("no row", empty.told(2), 0);
            }
        }
    }

    /** "The other sets without a GIVEN cell": one GIVEN or EMPTY cell keeps its whole set out of the row. */
    private static void rowOfOthersAlone() {
        int[] setSizes = {1, 2, 2, 4};
        for (int kind : Sample.BOTH_KINDS) {
            int cells = Sample.cellsOf(kind);
            for (int k = 0; k <= 3; k++) {
                SeedMakers made = new SeedMakers(kind);
                made.symmetry(k);
                made.make(6, 1);
                CHECKS.same("all sets", made.told(2), cells / setSizes[k]);
                made.theme(cells - 1, 1);
                made.make(6, 1);
                CHECKS.same("but that of a GIVEN cell", made.told(2), cells / setSizes[k] - 1);
                made.theme(cells - 2, 2);
                CHECKS.same("the EMPTY one's can go", made.make(6, 1), 1);
                CHECKS.same("but that of an EMPTY cell", made.told(2), cells / setSizes[k] - 2);
                CHECKS.same("an EMPTY one's set is out", made.given(cells - 2), -1);
            }
        }
    }

    /**
     * "by their least cells, are put in a row": of two sets by half a turn that can have each other's symbols, the one
     * with the least cell, which has the greatest one too, is first before they mix.
     */
    private static void rowsByLeastCells() {
        int orders = 0;
        for (long seed = 0; seed < 400; seed++) {
            int[] whole = Sample.wholeBy(1, seed);
            int[] first = {14, 21};
            int[] second = {15, 20};
            if (whole[14] == whole[21] && whole[15] == whole[20]) {
                boolean exchanged = new BigChance(seed).after(36).below(2) == 0;
                SeedMakers made = Sample.themed(1, 1);
                made.symmetry(1);
                for (int i = 0; i < 2; i++) {
                    made.theme(first[i], 0);
                    made.theme(second[i], 0);
                }
                CHECKS.same("make", made.make(seed, 1), 1);
                CHECKS.same("one of two is put back", made.told(3), 1);
                for (int i = 0; i < 2; i++) {
                    CHECKS.same("the first set by " + seed, made.given(first[i]) >= 0 ? 1 : 0, exchanged ? 1 : 0);
                    CHECKS.same("the second set by " + seed, made.given(second[i]) >= 0 ? 1 : 0, exchanged ? 0 : 1);
                }
                orders |= exchanged ? 2 : 1;
            }
        }
        CHECKS.same("both orders were seen", orders, 3);
    }

    /** "for i from the last one down to 1": a row of none and a row of one draw no number, a row of two draws one. */
    private static void shortRows() {
        for (int kind : Sample.BOTH_KINDS) {
            int cells = Sample.cellsOf(kind);
            SeedMakers made = Sample.themed(kind, 1);
            for (int length = 0; length <= 4; length++) {
                CHECKS.same("make", made.make(21, 1), 1);
                CHECKS.same("row", made.told(2), length);
                BigChance due = new BigChance(21).after(cells + Math.max(0, length - 1));
                CHECKS.same("X with a row of " + length, made.told(6), due.upperBits());
                made.theme(cells - 1 - length, 0);
            }
        }
    }

    /**
     * "the i-th and the j-th are exchanged, j a number below i + 1. Going along the row each set is taken out, and put
     * back when there is more than one answer": of four cells that can have each other's symbols the row's last alone
     * is put back.
     */
    private static void lastOfTheRowIsPutBack() {
        for (int kind : Sample.BOTH_KINDS) {
            int cells = Sample.cellsOf(kind);
            int places = 0;
            for (long from = 0; from < 600; from += 10) {
                long seed = Sample.seedOfExchangeable(kind, from);
                int[] row = Sample.exchangeable(kind, Sample.wholeBy(kind, seed));
                int[] rising = row.clone();
                SeedMakers made = Sample.themed(kind, 1);
                for (int cell : row) {
                    made.theme(cell, 0);
                }
                CHECKS.same("make", made.make(seed, 1), 1);
                CHECKS.same("taken out", made.told(2), 4);
                CHECKS.same("put back", made.told(3), 1);
                CHECKS.same("givens", made.told(4), cells - 3);
                BigChance chance = new BigChance(seed).after(cells);
                for (int i = 3; i >= 1; i--) {
                    int j = chance.below(i + 1);
                    int kept = row[i];
                    row[i] = row[j];
                    row[j] = kept;
                }
                for (int i = 0; i < 4; i++) {
                    CHECKS.same("put back by " + seed, made.given(row[i]) >= 0 ? 1 : 0, i == 3 ? 1 : 0);
                    places |= rising[i] == row[3] ? 1 << i : 0;
                }
            }
            CHECKS.same("each of the four was the last", places, 15);
        }
    }

    /** "The try is GOOD when the number of givens [..] is as AIMED at; else it FAILS." */
    private static void numberOfGivensAsAimedAt() {
        for (int kind : Sample.BOTH_KINDS) {
            for (long seed = 0; seed < 10; seed++) {
                SeedMakers made = new SeedMakers(kind);
                made.make(seed, 1);
                int givens = made.told(4);
                made.aim(0, givens, givens);
                CHECKS.same("least and most", made.make(seed, 1), 1);
                made.aim(0, givens, givens + 1);
                CHECKS.same("least", made.make(seed, 1), 1);
                made.aim(0, givens - 1, givens);
                CHECKS.same("most", made.make(seed, 1), 1);
                made.aim(0, givens + 1, givens + 1);
                CHECKS.same("one too few", made.make(seed, 1), -1);
                made.aim(0, givens - 1, givens - 1);
                CHECKS.same("one too many", made.make(seed, 1), -1);
            }
        }
    }

    /** "The try is GOOD when [..] whether they are EASY is as AIMED at; else it FAILS." */
    private static void easyAsAimedAt() {
        int hard = 0;
        for (long seed = 0; seed < 60; seed++) {
            SeedMakers made = new SeedMakers(1);
            made.make(seed, 1);
            boolean easy = made.told(5) == 1;
            hard += easy ? 0 : 1;
            made.aim(0, 0, 36);
            CHECKS.same("all", made.make(seed, 1), 1);
            made.aim(1, 0, 36);
            CHECKS.same("EASY ones alone", made.make(seed, 1), easy ? 1 : -1);
            made.aim(2, 0, 36);
            CHECKS.same("others alone", made.make(seed, 1), easy ? -1 : 1);
        }
        CHECKS.holds("both kinds were seen", hard > 0 && hard < 60);
    }

    /** "EASY: by singles alone all cells come to be known": the fewest that do not are still too many. */
    private static void allCellsComeToBeKnown() {
        // Of thousands of seeds these leave the fewest cells.
        long[] nearlyEasy = {1825, 2490, 3926};
        for (long seed : nearlyEasy) {
            SeedMakers made = new SeedMakers(1);
            made.aim(1, 0, 36);
            CHECKS.same("it is not EASY", made.make(seed, 1), -1);
            made.aim(2, 0, 36);
            CHECKS.same("it is one of the others", made.make(seed, 1), 1);
            CHECKS.same("left", made.left(), 11);
            CHECKS.same("easy", made.told(5), 0);
        }
        int some = 0;
        for (long seed = 0; seed < 100; seed++) {
            SeedMakers made = new SeedMakers(1);
            made.make(seed, 1);
            int unknown = new Oracle(1).unknown(Sample.givensOf(made, 36));
            CHECKS.same("easy by " + seed, made.told(5), unknown == 0 ? 1 : 0);
            CHECKS.same("left by " + seed, made.left(), unknown);
            // Some cells are known by singles, but not all.
            some += unknown > 0 && unknown < 36 - made.told(4) ? 1 : 0;
        }
        CHECKS.holds("some are known in part", some > 0);
    }

    /**
     * "a cell that may have one symbol alone (by what is known), or a symbol that in a row, column or box may be in one
     * cell alone": each of the four makes known what the other three do not.
     */
    private static void eachSingleCounts() {
        for (int off = 0; off < 4; off++) {
            int without = 15 & ~(1 << off);
            int counts = 0;
            for (long seed = 0; seed < 300; seed++) {
                SeedMakers made = new SeedMakers(1);
                made.make(seed, 1);
                Oracle rules = new Oracle(1);
                int[] givens = Sample.givensOf(made, 36);
                int due = rules.unknown(givens);
                if (rules.unknownBy(givens, without) > due) {
                    counts++;
                    CHECKS.same("left by " + seed, made.left(), due);
                }
            }
            CHECKS.holds("the single " + off + " counts", counts > 0);
        }
    }
}
