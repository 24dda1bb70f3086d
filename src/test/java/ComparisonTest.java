import java.util.Random;
import java.util.function.IntSupplier;

/** Drawn runs of at most 512 calls, each answer compared with the Oracle's. */
final class ComparisonTest {
    private static final Checks CHECKS = new Checks();

    public static void main(String[] args) {
        for (int run = 0; run < 600; run++) {
            compareRun(run, new Random(run));
        }
        drawsAreTheSame();
        for (int run = 0; run < 300; run++) {
            callInAnyOrder(run, new Random(-1 - run));
        }
        CHECKS.end();
    }

    private static void compareRun(int run, Random random) {
        int kind = random.nextInt(4) - 1;
        SeedMakers made = new SeedMakers(kind);
        Oracle due = new Oracle(kind);
        for (int i = 0; i < 3; i++) {
            String where = "run " + run + " step " + i;
            set(where, made, due, random);
            long seed = random.nextInt(4) == 0 ? random.nextInt(20) : random.nextLong();
            int tries = random.nextInt(9) == 0 ? random.nextInt(3) * 41 - 41 : 1 + random.nextInt(4);
            CHECKS.same(where + " make", made.make(seed, tries), due.make(seed, tries));
            compareTold(where, made, due);
            type(made, due, random);
            CHECKS.same(where + " answers", made.answers(), due.answers());
        }
        compareState("run " + run, made, due);
    }

    private static void set(String where, SeedMakers made, Oracle due, Random random) {
        int k = random.nextInt(6) - 1;
        boolean known = k >= 0 && k <= 3;
        CHECKS.same(where + " symmetry", made.symmetry(k) ? 1 : 0, known ? 1 : 0);
        due.symmetry = known ? k : due.symmetry;
        for (int i = random.nextInt(4); i > 0; i--) {
            int cell = random.nextInt(due.cells);
            int what = random.nextInt(3);
            made.theme(cell, what);
            due.themes[cell] = what;
        }
        if (random.nextInt(5) == 0) {
            for (int cell = 0; cell < due.cells; cell++) {
                made.theme(cell, 0);
                due.themes[cell] = 0;
            }
        }
        if (random.nextInt(2) == 0) {
            due.aimEasy = random.nextInt(3);
            due.aimLeast = random.nextInt(2) * random.nextInt(due.cells / 2);
            due.aimMost = due.aimLeast + random.nextInt(due.cells);
            made.aim(due.aimEasy, due.aimLeast, due.aimMost);
        }
    }

    private static void compareTold(String where, SeedMakers made, Oracle due) {
        for (int what = -1; what <= 7; what++) {
            CHECKS.same(where + " told(" + what + ")", made.told(what), due.told(what));
        }
        CHECKS.same(where + " left", made.left(), due.left());
    }

    private static void compareState(String where, SeedMakers made, Oracle due) {
        for (int cell = 0; cell < due.cells; cell++) {
            String at = where + " cell " + cell;
            CHECKS.same(at + " given", made.given(cell), due.puzzle == null ? -1 : due.puzzle[cell]);
            CHECKS.same(at + " answer", made.answer(cell), due.puzzle == null ? -1 : due.solution[cell]);
            CHECKS.same(at + " needed", made.needed(cell) ? 1 : 0, due.needed(cell) ? 1 : 0);
            CHECKS.same(at + " text", made.text(cell), due.text(cell));
        }
        for (int k = 0; k <= 3; k++) {
            int kept = due.symmetry;
            made.symmetry(k);
            due.symmetry = k;
            int cell = (kept * 7 + k) % due.cells;
            CHECKS.same(where + " needed by " + k, made.needed(cell) ? 1 : 0, due.needed(cell) ? 1 : 0);
            made.symmetry(kept);
            due.symmetry = kept;
        }
    }

    /** Mostly part of a whole answer, sometimes with a byte changed, cut off or added. */
    private static void type(SeedMakers made, Oracle due, Random random) {
        Oracle drawn = new Oracle(due.n == 4 ? 0 : 1);
        drawn.x = random.nextLong();
        int[] whole = drawn.drawWhole();
        int gaps = random.nextInt(11);
        int length = random.nextInt(4) == 0 ? random.nextInt(62) : due.cells;
        int changed = random.nextInt(2) == 0 ? random.nextInt(due.cells) : -1;
        for (int i = 0; i < length; i++) {
            int b = i >= due.cells || random.nextInt(10) < gaps ? '.' : '1' + whole[i];
            if (i == changed) {
                b = random.nextInt(3) == 0 ? random.nextInt(260) - 2 : '0' + random.nextInt(9);
            }
            CHECKS.same("unit(" + b + ")", made.unit(b) ? 1 : 0, due.unit(b) ? 1 : 0);
        }
    }

    /** DeadEndTest shows why there is no RESTART to be told of. */
    private static void drawsAreTheSame() {
        for (int kind = 0; kind <= 1; kind++) {
            for (long seed = -100; seed < 100; seed++) {
                SeedMakers made = new SeedMakers(kind);
                Oracle due = new Oracle(kind);
                CHECKS.same("make by seed " + seed, made.make(seed, 1), due.make(seed, 1));
                CHECKS.same("restarts by seed " + seed, made.told(1), 0);
                CHECKS.same("restarts by seed " + seed, due.told(1), 0);
                CHECKS.same("X by seed " + seed, made.told(6), due.told(6));
            }
        }
    }

    /** 512 calls of all methods, with arguments that are refused among them. */
    private static void callInAnyOrder(int run, Random random) {
        int kind = random.nextInt(2);
        SeedMakers made = new SeedMakers(kind);
        Oracle due = new Oracle(kind);
        for (int call = 1; call <= 512; call++) {
            String where = "run " + run + " call " + call;
            int cell = random.nextInt(due.cells + 2) - 1;
            boolean isCell = cell >= 0 && cell < due.cells;
            switch (random.nextInt(12)) {
                case 0 -> callSettings(where, made, due, random, cell);
                case 1 -> {
                    int tries = random.nextInt(8) == 0 ? random.nextInt(2) * 41 : 1 + random.nextInt(3);
                    long seed = random.nextLong();
                    CHECKS.same(where + " make", made.make(seed, tries), due.make(seed, tries));
                }
                case 2 -> callOfCell(where + " given", isCell, () -> made.given(cell), () -> due.given(cell));
                case 3 -> callOfCell(where + " answer", isCell, () -> made.answer(cell), () -> due.answer(cell));
                case 4 -> {
                    int what = random.nextInt(9) - 1;
                    CHECKS.same(where + " told(" + what + ")", made.told(what), due.told(what));
                }
                case 5 -> CHECKS.same(where + " left", made.left(), due.left());
                case 6 -> callOfCell(where + " needed", isCell, () -> made.needed(cell) ? 1 : 0,
                        () -> due.needed(cell) ? 1 : 0);
                case 7 -> CHECKS.same(where + " text(" + cell + ")", made.text(cell), due.text(cell));
                default -> callText(where, made, due, random);
            }
        }
    }

    private static void callSettings(String where, SeedMakers made, Oracle due, Random random, int cell) {
        int one = random.nextInt(6) - 1;
        int least = random.nextInt(due.cells / 3) - 1;
        int most = least + random.nextInt(due.cells) - 1;
        switch (random.nextInt(3)) {
            case 0 -> {
                CHECKS.same(where + " symmetry(" + one + ")", made.symmetry(one) ? 1 : 0, one >= 0 && one <= 3 ? 1 : 0);
                due.symmetry = one >= 0 && one <= 3 ? one : due.symmetry;
            }
            case 1 -> {
                boolean isCell = cell >= 0 && cell < due.cells;
                boolean isTheme = one >= 0 && one <= 2;
                CHECKS.throwsExactly(where + " theme(" + cell + ", " + one + ")",
                        !isCell ? Sample.INDEX : !isTheme ? Sample.ARGUMENT : null, () -> made.theme(cell, one));
                if (isCell && isTheme) {
                    due.themes[cell] = one;
                }
            }
            default -> {
                boolean isAim = one >= 0 && one <= 2 && least >= 0 && least <= most;
                CHECKS.throwsExactly(where + " aim(" + one + ", " + least + ", " + most + ")",
                        isAim ? null : Sample.ARGUMENT, () -> made.aim(one, least, most));
                if (isAim) {
                    due.aimEasy = one;
                    due.aimLeast = least;
                    due.aimMost = most;
                }
            }
        }
    }

    private static void callOfCell(String where, boolean isCell, IntSupplier made, IntSupplier due) {
        if (isCell) {
            CHECKS.same(where, made.getAsInt(), due.getAsInt());
        } else {
            CHECKS.throwsExactly(where, Sample.INDEX, made::getAsInt);
        }
    }

    /** Mostly one more byte that fits, so that some texts come to be full ones, and longer ones. */
    private static void callText(String where, SeedMakers made, Oracle due, Random random) {
        int told = due.text.size();
        boolean asks = random.nextInt(told == due.cells ? 2 : 60) == 0;
        if (asks) {
            CHECKS.same(where + " answers", made.answers(), due.answers());
            return;
        }
        int u = random.nextInt(40) == 0 ? random.nextInt(300) - 20 : due.nextByte(random);
        CHECKS.same(where + " unit(" + u + ")", made.unit(u) ? 1 : 0, due.unit(u) ? 1 : 0);
    }
}
