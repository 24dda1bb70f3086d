/**
 * "when it may have none, a RESTART (all are empty again)" and "With the 200th RESTART the try FAILS."
 *
 * Goes through every choice that a draw of a WHOLE can make, and counts the ends. There is no dead one, so no seed
 * can bring about a RESTART: that is why the other tests ask for 0 of them and can't look at the 200th.
 */
final class DeadEndTest {
    private static final Checks CHECKS = new Checks();

    private final Oracle rules;
    private final int[] grid;
    private long whole = 0;
    private long dead = 0;

    private DeadEndTest(int kind) {
        rules = new Oracle(kind);
        grid = rules.emptyGrid();
    }

    public static void main(String[] args) {
        // All answers of the empty grid, by the orders of the first row's symbols.
        endsOf(0, 288 / 24);
        endsOf(1, 28200960 / 720);
        CHECKS.end();
    }

    private static void endsOf(int kind, long due) {
        DeadEndTest test = new DeadEndTest(kind);
        test.goOn();
        CHECKS.same("wholes of kind " + kind, test.whole, due);
        CHECKS.same("dead ends of kind " + kind, test.dead, 0);
    }

    private void goOn() {
        int best = -1;
        int fewest = Integer.MAX_VALUE;
        for (int cell = 0; cell < rules.cells; cell++) {
            if (grid[cell] < 0 && waysOf(cell) < fewest) {
                best = cell;
                fewest = waysOf(cell);
            }
        }
        if (best < 0) {
            whole++;
        } else if (fewest == 0) {
            dead++;
        } else {
            choose(best);
        }
    }

    /** How many symbols a cell may have does not hang on which they are, so one order of the first row is enough. */
    private void choose(int cell) {
        for (int s = 0; s < rules.n; s++) {
            if ((cell >= rules.n || s == cell) && rules.fits(grid, cell, s)) {
                grid[cell] = s;
                goOn();
                grid[cell] = -1;
            }
        }
    }

    private int waysOf(int cell) {
        int ways = 0;
        for (int s = 0; s < rules.n; s++) {
            ways += rules.fits(grid, cell, s) ? 1 : 0;
        }
        return ways;
    }
}
