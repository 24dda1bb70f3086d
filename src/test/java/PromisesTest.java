/**
 * Each promise by itself: ordinary inputs, the edges that the document names, and wrong inputs. No object is used
 * for more than 512 calls, as nothing is promised behind them.
 */
final class PromisesTest {
    private static final Checks CHECKS = new Checks();
    private static final Class<ArrayIndexOutOfBoundsException> INDEX = ArrayIndexOutOfBoundsException.class;
    private static final Class<IllegalArgumentException> ARGUMENT = IllegalArgumentException.class;
    private static final int[] NO_CELLS_OF_4 = {-1, 16, 35, Integer.MIN_VALUE, Integer.MAX_VALUE};
    private static final int[] NO_CELLS_OF_6 = {-1, 36, 37, Integer.MIN_VALUE, Integer.MAX_VALUE};
    private static final int[] NO_TRIES = {0, 41, -1, Integer.MIN_VALUE, Integer.MAX_VALUE};

    public static void main(String[] args) {
        newObject();
        symmetry();
        theme();
        themeFailures();
        aim();
        make();
        makeGoesOn();
        givenAndAnswer();
        told();
        left();
        needed();
        answers();
        answersOfWrongTexts();
        unit();
        text();
        CHECKS.end();
    }

    private static int cellsOf(int kind) {
        return kind <= 0 ? 16 : 36;
    }

    private static int[] givensOf(SeedMakers made, int cells) {
        int[] givens = new int[cells];
        for (int cell = 0; cell < cells; cell++) {
            givens[cell] = made.given(cell);
        }
        return givens;
    }

    private static int answersOf(SeedMakers made, String text) {
        for (int i = 0; i < text.length(); i++) {
            made.unit(text.charAt(i));
        }
        return made.answers();
    }

    // Promise 1
    private static void newObject() {
        int[] kinds = {Integer.MIN_VALUE, -1, 0, 1, 2, Integer.MAX_VALUE};
        for (int kind : kinds) {
            SeedMakers made = new SeedMakers(kind);
            int cells = cellsOf(kind);
            nothingIsMade(made, cells);
            for (int what = 0; what <= 6; what++) {
                CHECKS.same("new told(" + what + ")", made.told(what), 0);
            }
            CHECKS.throwsExactly("given(" + cells + ")", INDEX, () -> made.given(cells));
            CHECKS.same("no text", made.answers(), -1);
            for (long seed = 0; seed < 20; seed++) {
                CHECKS.same("all is aimed at", made.make(seed, 1), 1);
                CHECKS.same("no symmetry, no themes", made.told(2), cells);
            }
        }
    }

    private static void nothingIsMade(SeedMakers made, int cells) {
        for (int cell = 0; cell < cells; cell++) {
            CHECKS.same("given without a puzzle", made.given(cell), -1);
            CHECKS.same("answer without a puzzle", made.answer(cell), -1);
            CHECKS.same("text without a puzzle", made.text(cell), -1);
            CHECKS.fails("needed without a puzzle", made.needed(cell));
        }
        CHECKS.same("left without a puzzle", made.left(), -1);
        CHECKS.same("givens without a puzzle", made.told(4), 0);
        CHECKS.same("easy without a puzzle", made.told(5), 0);
    }

    // Promise 2
    private static void symmetry() {
        for (int kind = 0; kind <= 1; kind++) {
            for (int k = 0; k <= 3; k++) {
                for (long seed = 50; seed < 60; seed++) {
                    symmetryOf(kind, k, seed);
                }
            }
        }
    }

    private static void symmetryOf(int kind, int k, long seed) {
        int[] others = {-1, 4, Integer.MIN_VALUE, Integer.MAX_VALUE};
        int[] setSizes = {1, 2, 2, 4};
        int side = kind == 0 ? 4 : 6;
        SeedMakers made = new SeedMakers(kind);
        CHECKS.holds("symmetry(" + k + ")", made.symmetry(k));
        for (int other : others) {
            CHECKS.fails("symmetry(" + other + ")", made.symmetry(other));
        }
        CHECKS.same("make", made.make(seed, 1), 1);
        CHECKS.same("sets by " + k, made.told(2), side * side / setSizes[k]);
        int[] givens = givensOf(made, side * side);
        setsGoTogether(givens, side, k);
        made.symmetry(3 - k);
        for (int cell = 0; cell < side * side; cell++) {
            CHECKS.same("a new symmetry leaves the puzzle", made.given(cell), givens[cell]);
        }
    }

    private static void setsGoTogether(int[] givens, int side, int k) {
        int last = side - 1;
        for (int y = 0; y < side; y++) {
            for (int x = 0; x < side; x++) {
                int[] partners = {side * y + x, side * (last - y) + last - x, side * y + last - x, side * x + last - y};
                boolean here = givens[side * y + x] >= 0;
                boolean there = givens[partners[k]] >= 0;
                CHECKS.same("by " + k + " at " + x + " " + y, here ? 1 : 0, there ? 1 : 0);
            }
        }
    }

    // Promise 3
    private static void theme() {
        SeedMakers made = new SeedMakers(0);
        for (int cell : NO_CELLS_OF_4) {
            CHECKS.throwsExactly("theme of no cell", INDEX, () -> made.theme(cell, 0));
            CHECKS.throwsExactly("no theme of no cell", INDEX, () -> made.theme(cell, 3));
        }
        SeedMakers larger = new SeedMakers(1);
        for (int cell : NO_CELLS_OF_6) {
            CHECKS.throwsExactly("theme of no cell", INDEX, () -> larger.theme(cell, 1));
        }
        int[] others = {-1, 3, Integer.MIN_VALUE, Integer.MAX_VALUE};
        made.theme(0, 1);
        made.theme(15, 2);
        for (int other : others) {
            CHECKS.throwsExactly("no theme", ARGUMENT, () -> made.theme(0, other));
            CHECKS.throwsExactly("no theme", ARGUMENT, () -> made.theme(15, other));
        }
        for (long seed = 0; seed < 40; seed++) {
            CHECKS.same("make", made.make(seed, 1), 1);
            CHECKS.same("GIVEN", made.given(0), made.answer(0));
            CHECKS.same("EMPTY", made.given(15), -1);
            CHECKS.same("sets of the row", made.told(2), 14);
        }
        made.theme(0, 0);
        made.theme(15, 0);
        int givenFirst = 0;
        int givenLast = 0;
        for (long seed = 0; seed < 40; seed++) {
            made.make(seed, 1);
            CHECKS.same("sets of the row", made.told(2), 16);
            givenFirst += made.given(0) >= 0 ? 1 : 0;
            givenLast += made.given(15) >= 0 ? 1 : 0;
        }
        CHECKS.holds("neither is sometimes empty", givenFirst < 40);
        CHECKS.holds("neither is sometimes given", givenLast > 0);
    }

    private static void themeFailures() {
        SeedMakers made = new SeedMakers(1);
        made.theme(0, 1);
        made.theme(35, 2);
        CHECKS.same("by themselves", made.make(5, 1), 1);
        made.symmetry(1);
        CHECKS.same("GIVEN and EMPTY in a set", made.make(5, 7), -1);
        CHECKS.same("tries", made.told(0), 7);
        CHECKS.same("nothing is taken out of a row", made.told(2), 0);
        nothingIsMade(made, 36);
        SeedMakers empty = new SeedMakers(0);
        for (int cell = 0; cell < 16; cell++) {
            empty.theme(cell, 2);
        }
        CHECKS.same("all EMPTY has more than one answer", empty.make(1, 40), -1);
        CHECKS.same("tries", empty.told(0), 40);
        SeedMakers full = new SeedMakers(0);
        for (int cell = 0; cell < 16; cell++) {
            full.theme(cell, 1);
        }
        CHECKS.same("all GIVEN", full.make(1, 40), 1);
        CHECKS.same("givens", full.told(4), 16);
        CHECKS.same("row", full.told(2), 0);
        CHECKS.same("easy", full.told(5), 1);
        CHECKS.fails("needed", full.needed(3));
    }

    // Promise 4
    private static void aim() {
        SeedMakers made = new SeedMakers(1);
        made.aim(2, 11, 11);
        int[][] wrong = {{-1, 0, 9}, {3, 0, 9}, {Integer.MAX_VALUE, 0, 9}, {0, -1, 9}, {0, 8, 7}, {0, -2, -1},
            {1, Integer.MIN_VALUE, 0}, {2, Integer.MAX_VALUE, 0}, {0, 0, -1}, {-1, 8, 7}};
        for (int[] w : wrong) {
            CHECKS.throwsExactly("aim", ARGUMENT, () -> made.aim(w[0], w[1], w[2]));
        }
        int good = 0;
        for (long seed = 0; seed < 40; seed++) {
            if (made.make(seed, 40) > 0) {
                good++;
                CHECKS.same("givens as aimed at", made.told(4), 11);
                CHECKS.same("others alone", made.told(5), 0);
                CHECKS.holds("others alone", made.left() > 0);
            }
        }
        CHECKS.holds("some are good", good > 10);
        aimAtEdges(made);
    }

    private static void aimAtEdges(SeedMakers made) {
        made.aim(0, 0, Integer.MAX_VALUE);
        CHECKS.same("all", made.make(3, 1), 1);
        int givens = made.told(4);
        made.aim(0, givens, givens);
        CHECKS.same("least and most", made.make(3, 1), 1);
        made.aim(0, givens + 1, 36);
        CHECKS.same("too few", made.make(3, 1), -1);
        made.aim(0, 0, givens - 1);
        CHECKS.same("too many", made.make(3, 1), -1);
        made.aim(0, 0, 0);
        CHECKS.same("never", made.make(3, 40), -1);
        made.aim(0, Integer.MAX_VALUE, Integer.MAX_VALUE);
        CHECKS.same("never", made.make(3, 40), -1);
        made.aim(1, 0, 36);
        for (long seed = 0; seed < 20; seed++) {
            CHECKS.holds("easy ones alone", made.make(seed, 40) > 0 && made.told(5) == 1 && made.left() == 0);
        }
    }

    // Promise 5
    private static void make() {
        SeedMakers made = new SeedMakers(1);
        for (int tries : NO_TRIES) {
            CHECKS.same("make(1, " + tries + ")", made.make(1, tries), -2);
            CHECKS.same("it does nothing", made.told(0), 0);
        }
        CHECKS.same("least tries", made.make(7, 1), 1);
        int[] givens = givensOf(made, 36);
        int upper = made.told(6);
        for (int tries : NO_TRIES) {
            CHECKS.same("make(8, " + tries + ")", made.make(8, tries), -2);
            CHECKS.same("it does nothing", made.told(6), upper);
            for (int cell = 0; cell < 36; cell++) {
                CHECKS.same("it does nothing", made.given(cell), givens[cell]);
            }
        }
        CHECKS.same("most tries", made.make(8, 40), 1);
        CHECKS.same("the same seed again", made.make(7, 1), 1);
        for (int cell = 0; cell < 36; cell++) {
            CHECKS.same("the same puzzle", made.given(cell), givens[cell]);
        }
        made.aim(0, 36, 36);
        CHECKS.same("none is good", made.make(7, 2), -1);
        nothingIsMade(made, 36);
        for (long seed : new long[] {0, -1, Long.MIN_VALUE, Long.MAX_VALUE}) {
            SeedMakers other = new SeedMakers(0);
            CHECKS.same("make by " + seed, other.make(seed, 1), 1);
        }
    }

    /** X goes on from one try to the next, and is the seed again with each make(). */
    private static void makeGoesOn() {
        SeedMakers made = new SeedMakers(1);
        made.aim(2, 0, 36);
        CHECKS.same("third", made.make(7, 10), 3);
        CHECKS.same("two are too few", made.make(7, 2), -1);
        CHECKS.same("three are enough", made.make(7, 3), 3);
        CHECKS.same("row of all tries", made.told(2), 108);
        Oracle due = new Oracle(1);
        due.aimEasy = 2;
        due.make(7, 10);
        CHECKS.same("X of all tries", made.told(6), due.told(6));
    }

    // Promises 6 and 7
    private static void givenAndAnswer() {
        for (int kind = 0; kind <= 1; kind++) {
            for (long seed = 20; seed < 30; seed++) {
                SeedMakers made = new SeedMakers(kind);
                noSuchCell(made, kind);
                made.make(seed, 1);
                noSuchCell(made, kind);
                puzzleAndAnswer(made, new Oracle(kind));
            }
        }
    }

    private static void noSuchCell(SeedMakers made, int kind) {
        for (int cell : kind == 0 ? NO_CELLS_OF_4 : NO_CELLS_OF_6) {
            CHECKS.throwsExactly("given of no cell", INDEX, () -> made.given(cell));
            CHECKS.throwsExactly("answer of no cell", INDEX, () -> made.answer(cell));
            CHECKS.throwsExactly("needed of no cell", INDEX, () -> made.needed(cell));
        }
    }

    private static void puzzleAndAnswer(SeedMakers made, Oracle rules) {
        int[] givens = givensOf(made, rules.cells);
        int[] whole = new int[rules.cells];
        int count = 0;
        for (int cell = 0; cell < rules.cells; cell++) {
            whole[cell] = made.answer(cell);
            CHECKS.holds("a symbol", whole[cell] >= 0 && whole[cell] < rules.n);
            CHECKS.holds("given as answered", givens[cell] == -1 || givens[cell] == whole[cell]);
            count += givens[cell] >= 0 ? 1 : 0;
            for (int other = 0; other < cell; other++) {
                CHECKS.fails("alike", rules.sees(cell, other) && whole[other] == whole[cell]);
            }
        }
        CHECKS.same("givens", made.told(4), count);
        CHECKS.same("one answer", rules.countAnswers(givens, 3), 1);
    }

    // Promise 8
    private static void told() {
        SeedMakers made = new SeedMakers(0);
        int[] due = {1, 0, 16, 4, 4, 1, 608200607};
        made.make(1, 1);
        made.make(9, 0);
        for (int what = 0; what <= 6; what++) {
            CHECKS.same("told(" + what + ")", made.told(what), due[what]);
        }
        for (int other : new int[] {-1, 7, Integer.MIN_VALUE, Integer.MAX_VALUE}) {
            CHECKS.same("told(" + other + ")", made.told(other), -1);
        }
        made.aim(0, 16, 16);
        CHECKS.same("none is good", made.make(1, 3), -1);
        CHECKS.same("tries", made.told(0), 3);
        CHECKS.same("sets of all tries", made.told(2), 48);
        CHECKS.holds("put back in all tries", made.told(3) >= 12);
        CHECKS.same("givens", made.told(4), 0);
        CHECKS.same("easy", made.told(5), 0);
        made.aim(0, 0, 16);
        made.make(1, 1);
        for (int what = 0; what <= 6; what++) {
            CHECKS.same("of the latest alone: told(" + what + ")", made.told(what), due[what]);
        }
    }

    // Promise 9
    private static void left() {
        SeedMakers made = new SeedMakers(1);
        CHECKS.same("before", made.left(), -1);
        made.make(1, 1);
        CHECKS.holds("with one", made.left() >= 0);
        made.aim(0, 0, 0);
        made.make(1, 1);
        CHECKS.same("without one", made.left(), -1);
        int hard = 0;
        for (long seed = 0; seed < 100; seed++) {
            hard += leftOf(seed) > 0 ? 1 : 0;
        }
        CHECKS.holds("some are not easy", hard > 0);
    }

    private static int leftOf(long seed) {
        SeedMakers made = new SeedMakers(1);
        made.make(seed, 1);
        int due = new Oracle(1).unknown(givensOf(made, 36));
        CHECKS.same("left by " + seed, made.left(), due);
        CHECKS.same("easy by " + seed, made.told(5), due == 0 ? 1 : 0);
        return due;
    }

    // Promise 10
    private static void needed() {
        for (long seed = 0; seed < 10; seed++) {
            SeedMakers made = new SeedMakers(1);
            made.make(seed, 1);
            for (int cell = 0; cell < 36; cell++) {
                CHECKS.same("each given is needed", made.needed(cell) ? 1 : 0, made.given(cell) >= 0 ? 1 : 0);
            }
            made.symmetry(1);
            for (int cell = 0; cell < 36; cell++) {
                boolean some = made.given(cell) >= 0 || made.given(35 - cell) >= 0;
                CHECKS.same("by the symmetry from now on", made.needed(cell) ? 1 : 0, some ? 1 : 0);
            }
        }
        SeedMakers themed = new SeedMakers(0);
        for (int cell = 1; cell < 16; cell++) {
            themed.theme(cell, 1);
        }
        themed.make(4, 1);
        for (int cell = 0; cell < 16; cell++) {
            CHECKS.fails("a given too many is not needed", themed.needed(cell));
        }
    }

    // Promise 11
    private static void answers() {
        SeedMakers small = new SeedMakers(0);
        CHECKS.same("one given", answersOf(small, "1..............."), 72);
        CHECKS.same("all empty", answersOf(small, "................"), 100);
        CHECKS.same("whole", answersOf(small, "1234341221434321"), 1);
        CHECKS.same("two empty", answersOf(small, "..34341221434321"), 1);
        CHECKS.same("two answers", answersOf(small, "..343412..434321"), 2);
        CHECKS.same("none", answersOf(small, "123....4........"), 0);
        CHECKS.same("first row", answersOf(small, "1234............"), 12);
        SeedMakers large = new SeedMakers(1);
        String dots = "....................................";
        CHECKS.same("all empty", answersOf(large, dots), 100);
        CHECKS.same("first row", answersOf(large, "123456" + dots.substring(6)), 100);
        CHECKS.same("none", answersOf(large, "12345......6" + dots.substring(12)), 0);
        String fourRows = "123456456123231564564231" + dots.substring(24);
        Oracle rules = new Oracle(1);
        for (int i = 0; i < 36; i++) {
            rules.unit(fourRows.charAt(i));
        }
        CHECKS.same("four rows", answersOf(large, fourRows), rules.answers());
        large.make(7, 1);
        int givens = large.told(4);
        answersOf(large, dots);
        CHECKS.same("the puzzle stays", large.told(4), givens);
        CHECKS.same("the puzzle stays", large.left(), 0);
    }

    private static void answersOfWrongTexts() {
        SeedMakers small = new SeedMakers(0);
        CHECKS.same("no text", small.answers(), -1);
        CHECKS.same("too soon", answersOf(small, "1"), -2);
        CHECKS.same("too soon by one", answersOf(small, "..............."), -16);
        CHECKS.same("too many by one", answersOf(small, "................."), -17);
        CHECKS.same("the text is gone", small.answers(), -1);
        CHECKS.same("sixty", answersOf(small, ".".repeat(60)), -17);
        CHECKS.same("a byte too many, whatever it is", answersOf(small, "................x"), -17);
        CHECKS.same("in a row", answersOf(small, "1..1............"), -4);
        CHECKS.same("in a column", answersOf(small, "1...........1..."), -13);
        CHECKS.same("in a box", answersOf(small, "1....1.........."), -6);
        CHECKS.same("before it ends too soon", answersOf(small, "11"), -2);
        CHECKS.same("before it is too long", answersOf(small, "...............5."), -16);
        CHECKS.same("digit 0", answersOf(small, "0..............."), -1);
        CHECKS.same("digit 5", answersOf(small, "5..............."), -1);
        CHECKS.same("digit 4", answersOf(small, "4..............."), 72);
        CHECKS.same("a space", answersOf(small, ".. ............."), -3);
        CHECKS.same("byte 255", answersOf(small, "." + (char) 255), -2);
        CHECKS.same("byte 0", answersOf(small, "." + (char) 0), -2);
        SeedMakers large = new SeedMakers(1);
        CHECKS.same("digit 7", answersOf(large, ".....7"), -6);
        CHECKS.same("digit 0", answersOf(large, "..0"), -3);
        CHECKS.same("too soon by one", answersOf(large, ".".repeat(35)), -36);
        CHECKS.same("too many by one", answersOf(large, ".".repeat(37)), -37);
        CHECKS.same("box three wide", answersOf(large, "6.......6"), -9);
        CHECKS.same("box two high", answersOf(large, "6............6" + ".".repeat(22)), 100);
        CHECKS.same("next box", answersOf(large, "6........6" + ".".repeat(26)), 100);
    }

    // Promise 12
    private static void unit() {
        SeedMakers made = new SeedMakers(1);
        for (int other : new int[] {-1, 256, Integer.MIN_VALUE, Integer.MAX_VALUE}) {
            CHECKS.fails("unit(" + other + ")", made.unit(other));
        }
        CHECKS.same("they did not come behind the text", made.answers(), -1);
        CHECKS.holds("unit(0)", made.unit(0));
        CHECKS.holds("unit(255)", made.unit(255));
        for (int i = 2; i < 60; i++) {
            CHECKS.holds("unit " + i, made.unit('.'));
        }
        CHECKS.fails("the 61st", made.unit('.'));
        CHECKS.fails("the 61st", made.unit(256));
        CHECKS.same("the first one", made.answers(), -1);
        CHECKS.holds("there is room again", made.unit('.'));
        CHECKS.same("one byte", made.answers(), -2);
    }

    // Promise 13
    private static void text() {
        for (int kind = 0; kind <= 1; kind++) {
            int cells = cellsOf(kind);
            for (long seed = 0; seed < 10; seed++) {
                SeedMakers made = new SeedMakers(kind);
                made.make(seed, 1);
                for (int i : kind == 0 ? NO_CELLS_OF_4 : NO_CELLS_OF_6) {
                    CHECKS.same("text(" + i + ")", made.text(i), -1);
                }
                for (int i = 0; i < cells; i++) {
                    int due = made.given(i) < 0 ? '.' : '1' + made.given(i);
                    CHECKS.same("text(" + i + ")", made.text(i), due);
                    made.unit(made.text(i));
                }
                CHECKS.same("the text has one answer", made.answers(), 1);
            }
        }
    }
}
