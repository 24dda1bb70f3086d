/** The sentences of promises 11 to 13 that name a boundary case, each by itself. */
final class TextTest {
    private static final Checks CHECKS = new Checks();
    private static final int[] NO_BYTES = {-1, 256, -256, 302, Integer.MIN_VALUE, Integer.MAX_VALUE};

    public static void main(String[] args) {
        noAnswerAndOne();
        atMostHundred();
        textIsGoneThen();
        textWaitsForAnswers();
        digitsEnd();
        pointsAreEmpty();
        bytesThatAreNeither();
        firstWrongByte();
        digitOfASeenCell();
        endsTooSoon();
        byteTooMany();
        byteBehindTheText();
        noByte();
        sixtyBytes();
        textOfThePuzzle();
        textOfNoPlace();
        textWithoutAPuzzle();
        CHECKS.end();
    }

    /** Promise 11: "How many answers given symbols have": none, one, two and some. */
    private static void noAnswerAndOne() {
        CHECKS.same("none", Sample.answersOf(0, "123....4........"), 0);
        CHECKS.same("one, all are given", Sample.answersOf(0, "1234341221434321"), 1);
        CHECKS.same("one", Sample.answersOf(0, "..34341221434321"), 1);
        CHECKS.same("two", Sample.answersOf(0, "..343412..434321"), 2);
        CHECKS.same("a row", Sample.answersOf(0, "1234............"), 12);
        CHECKS.same("one given", Sample.answersOf(0, "...............1"), 72);
        CHECKS.same("6: none", Sample.answersOf(1, "12345......6" + Sample.points(24)), 0);
        CHECKS.same("6: one", Sample.answersOf(1, "123456456123231564564231312645645312"), 1);
        CHECKS.same("6: two", Sample.answersOf(1, "..1..2....616.3..44.2..62456131..425"), 2);
        CHECKS.same("6: three", Sample.answersOf(1, "..1..2....616.3.....2..6..56.3...42."), 3);
    }

    /** Promise 11: "at most 100 are counted" */
    private static void atMostHundred() {
        CHECKS.same("99", Sample.answersOf(1, "...1.4..45...63......46....6.....3.."), 99);
        CHECKS.same("100", Sample.answersOf(1, "..65..32.61......6.............6...1"), 100);
        CHECKS.same("101", Sample.answersOf(1, ".....1......5..4....61...34..2......"), 100);
        CHECKS.same("102", Sample.answersOf(1, "....342..1....5.......51......5....."), 100);
        CHECKS.same("288", Sample.answersOf(0, Sample.points(16)), 100);
        CHECKS.same("28200960", Sample.answersOf(1, Sample.points(36)), 100);
    }

    /** Promise 11: "(byte by byte in the text told by unit(), which is gone then)": with a wrong text, too. */
    private static void textIsGoneThen() {
        for (int kind : Sample.BOTH_KINDS) {
            int cells = Sample.cellsOf(kind);
            for (String text : new String[] {Sample.points(cells), "x", "11", ".", Sample.points(60), ""}) {
                SeedMakers made = new SeedMakers(kind);
                Sample.answersOf(made, text);
                CHECKS.same("gone behind " + text, made.answers(), -1);
                CHECKS.same("the next begins anew", Sample.answersOf(made, Sample.points(cells)), 100);
            }
        }
    }

    /** Promise 11: "in the text told by unit(), which is gone then": not before; no other call takes it. */
    private static void textWaitsForAnswers() {
        SeedMakers made = new SeedMakers(0);
        Sample.type(made, "1234");
        made.make(1, 1);
        made.needed(5);
        made.text(0);
        made.symmetry(2);
        Sample.type(made, "3412");
        made.make(1, 0);
        CHECKS.throwsExactly("theme", Sample.INDEX, () -> made.theme(16, 0));
        Sample.type(made, "........");
        CHECKS.same("all of it", made.answers(), Sample.answersOf(0, "12343412........"));
    }

    /** Promise 11: "a digit 1 .. n for a cell": neither 0 nor n + 1, in any cell. */
    private static void digitsEnd() {
        for (int kind : Sample.BOTH_KINDS) {
            int n = Sample.sideOf(kind);
            for (int cell = 0; cell < n * n; cell++) {
                for (int digit = 0; digit <= 9; digit++) {
                    int got = Sample.answersOf(kind, Sample.pointsBut(kind, (char) ('0' + digit), cell));
                    boolean fits = digit >= 1 && digit <= n;
                    CHECKS.same(digit + " in " + cell, got, !fits ? -1 - cell : n == 4 ? 72 : 100);
                }
            }
        }
    }

    /** Promise 11: "a point for an empty one, cell by cell" */
    private static void pointsAreEmpty() {
        for (int kind : Sample.BOTH_KINDS) {
            int[] whole = Sample.wholeBy(kind, 28);
            for (int cell = 0; cell < whole.length; cell++) {
                StringBuilder text = new StringBuilder();
                for (int other = 0; other < whole.length; other++) {
                    text.append(other == cell ? '.' : (char) ('1' + whole[other]));
                }
                CHECKS.same("one point at " + cell, Sample.answersOf(kind, text.toString()), 1);
            }
        }
    }

    /** Promise 11: "the first byte that can't be there": each that is neither a point nor such a digit. */
    private static void bytesThatAreNeither() {
        for (int kind : Sample.BOTH_KINDS) {
            int cells = Sample.cellsOf(kind);
            for (int b = 0; b <= 255; b++) {
                boolean fits = b == '.' || b >= '1' && b <= '0' + Sample.sideOf(kind);
                if (!fits) {
                    CHECKS.same("byte " + b, Sample.answersOf(kind, "." + (char) b + Sample.points(cells - 2)), -2);
                }
            }
        }
    }

    /** Promise 11: "-1 less the place of the first byte that can't be there": the first one, whatever is behind it. */
    private static void firstWrongByte() {
        for (int kind : Sample.BOTH_KINDS) {
            int cells = Sample.cellsOf(kind);
            for (int cell = 0; cell < cells; cell++) {
                String wrong = Sample.points(cell) + "x";
                CHECKS.same("before the end", Sample.answersOf(kind, wrong), -1 - cell);
                CHECKS.same("before another", Sample.answersOf(kind, wrong + "0"), -1 - cell);
                String tooLong = wrong + Sample.points(60 - cell - 1);
                CHECKS.same("before one too many", Sample.answersOf(kind, tooLong), -1 - cell);
            }
            CHECKS.same("a seen digit before the end", Sample.answersOf(kind, "11"), -2);
            CHECKS.same("a seen digit before another byte", Sample.answersOf(kind, "1.1x"), -3);
        }
    }

    /** Promise 11: "(a digit that a cell that it sees has, too": in a row, a column, a box; the latter of the two. */
    private static void digitOfASeenCell() {
        CHECKS.same("in a row", Sample.answersOf(0, Sample.pointsBut(0, '4', 12, 15)), -16);
        CHECKS.same("in a column", Sample.answersOf(0, Sample.pointsBut(0, '4', 0, 12)), -13);
        CHECKS.same("in a box", Sample.answersOf(0, Sample.pointsBut(0, '4', 3, 6)), -7);
        CHECKS.same("6: in a row", Sample.answersOf(1, Sample.pointsBut(1, '6', 30, 35)), -36);
        CHECKS.same("6: in a column", Sample.answersOf(1, Sample.pointsBut(1, '6', 0, 30)), -31);
        CHECKS.same("6: in a box", Sample.answersOf(1, Sample.pointsBut(1, '6', 5, 9)), -10);
        CHECKS.same("the first of two", Sample.answersOf(0, Sample.pointsBut(0, '4', 0, 3, 12)), -4);
        CHECKS.same("another digit is fine", Sample.answersOf(0, "12" + Sample.points(14)), 24);
        CHECKS.same("the last byte of a whole one", Sample.answersOf(0, "1234341221434322"), -16);
    }

    /** Promise 11: "how many there are, when it ends too soon": from no byte to one too few. */
    private static void endsTooSoon() {
        for (int kind : Sample.BOTH_KINDS) {
            for (int length = 0; length < Sample.cellsOf(kind); length++) {
                CHECKS.same(length + " points", Sample.answersOf(kind, Sample.points(length)), -1 - length);
            }
        }
        CHECKS.same("15 of a whole one", Sample.answersOf(0, "123434122143432"), -16);
    }

    /** Promise 11: "a byte too many)": from one to as many as there can be, whatever it is. */
    private static void byteTooMany() {
        for (int kind : Sample.BOTH_KINDS) {
            int cells = Sample.cellsOf(kind);
            for (int length = cells + 1; length <= 60; length++) {
                CHECKS.same(length + " points", Sample.answersOf(kind, Sample.points(length)), -1 - cells);
            }
            CHECKS.same("a digit", Sample.answersOf(kind, Sample.points(cells) + "1"), -1 - cells);
            CHECKS.same("another", Sample.answersOf(kind, Sample.points(cells) + "x"), -1 - cells);
        }
        CHECKS.same("behind a whole one", Sample.answersOf(0, "1234341221434321."), -17);
    }

    /** Promise 12: "A byte comes behind the text: true": from 0 to 255. */
    private static void byteBehindTheText() {
        SeedMakers made = new SeedMakers(1);
        for (int u = 0; u <= 255; u++) {
            if (u % 60 == 0) {
                made.answers();
            }
            CHECKS.holds("unit(" + u + ")", made.unit(u));
        }
        CHECKS.same("behind it", Sample.answersOf(0, "12341"), -5);
    }

    /** Promise 12: "false when it is not 0 .. 255" */
    private static void noByte() {
        for (int kind : Sample.BOTH_KINDS) {
            Sample.doesNothing(CHECKS, "no byte", kind, made -> {
                Sample.type(made, "12");
                made.make(29, 1);
            }, made -> {
                for (int u : NO_BYTES) {
                    CHECKS.fails("unit(" + u + ")", made.unit(u));
                }
            });
        }
    }

    /** Promise 12: "or there are 60." */
    private static void sixtyBytes() {
        for (int kind : Sample.BOTH_KINDS) {
            SeedMakers made = new SeedMakers(kind);
            for (int round = 0; round < 2; round++) {
                for (int i = 1; i <= 60; i++) {
                    CHECKS.holds("byte " + i, made.unit('.'));
                }
                CHECKS.fails("byte 61", made.unit('.'));
                CHECKS.fails("byte 61 again", made.unit('1'));
                CHECKS.fails("no byte either", made.unit(256));
                CHECKS.same("the 60 are there", made.answers(), -1 - Sample.cellsOf(kind));
            }
            CHECKS.holds("there is room again", made.unit('.'));
            CHECKS.same("for one byte", made.answers(), -2);
        }
    }

    /** Promise 13: "Byte i of THE PUZZLE's text, as of answers()": the first and the last too, and it has one answer. */
    private static void textOfThePuzzle() {
        for (int kind : Sample.BOTH_KINDS) {
            int cells = Sample.cellsOf(kind);
            for (long seed = 0; seed < 10; seed++) {
                SeedMakers made = new SeedMakers(kind);
                made.theme(0, seed < 5 ? 1 : 2);
                made.theme(cells - 1, seed < 5 ? 2 : 1);
                made.make(seed, 1);
                for (int i = 0; i < cells; i++) {
                    int due = made.given(i) < 0 ? '.' : "123456".charAt(made.given(i));
                    CHECKS.same("text(" + i + ")", made.text(i), due);
                    made.unit(made.text(i));
                }
                CHECKS.same("it has one answer", made.answers(), 1);
            }
        }
    }

    /** Promise 13: "-1 when there is none": no such byte, before the first and behind the last. */
    private static void textOfNoPlace() {
        for (int kind : Sample.BOTH_KINDS) {
            SeedMakers made = new SeedMakers(kind);
            made.make(1, 1);
            for (int i : Sample.noCellsOf(kind)) {
                CHECKS.same("text(" + i + ")", made.text(i), -1);
            }
        }
    }

    /** Promise 13: "-1 when there is none": no puzzle; what unit() told is not its text. */
    private static void textWithoutAPuzzle() {
        for (int kind : Sample.BOTH_KINDS) {
            SeedMakers made = new SeedMakers(kind);
            Sample.type(made, "1234");
            for (int i = -1; i <= Sample.cellsOf(kind); i++) {
                CHECKS.same("not yet: text(" + i + ")", made.text(i), -1);
            }
            made.make(1, 1);
            made.aim(0, 0, 0);
            made.make(1, 1);
            for (int i = -1; i <= Sample.cellsOf(kind); i++) {
                CHECKS.same("no more: text(" + i + ")", made.text(i), -1);
            }
        }
    }
}
