import java.util.ArrayList;
import java.util.List;
import java.util.TreeSet;

/**
 * The document once more, in its plainest words and without care for speed, to compare SeedMakers with.
 * It shares no code and no way of counting with the class.
 */
final class Oracle {
    final int n;
    final int cells;
    int symmetry = 0;
    final int[] themes;
    int aimEasy = 0;
    int aimLeast = 0;
    int aimMost = Integer.MAX_VALUE;
    long x = 0;
    int[] puzzle = null;
    int[] solution = null;
    final int[] told = new int[6];
    final List<Integer> text = new ArrayList<>();
    final boolean[][] seen;

    Oracle(int kind) {
        n = kind <= 0 ? 4 : 6;
        cells = n * n;
        themes = new int[cells];
        seen = new boolean[cells][cells];
        for (int a = 0; a < cells; a++) {
            for (int b = 0; b < cells; b++) {
                seen[a][b] = sees(a, b);
            }
        }
    }

    int below(int k) {
        x = x * 6364136223846793005L + 1442695040888963407L;
        return (int) ((x >>> 33) % k);
    }

    boolean sees(int a, int b) {
        int ax = a % n;
        int ay = a / n;
        int bx = b % n;
        int by = b / n;
        int width = n == 4 ? 2 : 3;
        boolean box = ax / width == bx / width && ay / 2 == by / 2;
        return a != b && (ax == bx || ay == by || box);
    }

    List<Integer> may(int[] grid, int cell) {
        List<Integer> some = new ArrayList<>();
        for (int s = 0; s < n; s++) {
            if (fits(grid, cell, s)) {
                some.add(s);
            }
        }
        return some;
    }

    boolean fits(int[] grid, int cell, int symbol) {
        for (int other = 0; other < cells; other++) {
            if (grid[other] == symbol && seen[cell][other]) {
                return false;
            }
        }
        return true;
    }

    TreeSet<Integer> setOf(int cell) {
        TreeSet<Integer> set = new TreeSet<>();
        int cx = cell % n;
        int cy = cell / n;
        set.add(cell);
        if (symmetry == 1) {
            set.add(n * (n - 1 - cy) + n - 1 - cx);
        } else if (symmetry == 2) {
            set.add(n * cy + n - 1 - cx);
        } else if (symmetry == 3) {
            set.add(n * cx + n - 1 - cy);
            set.add(n * (n - 1 - cy) + n - 1 - cx);
            set.add(n * (n - 1 - cx) + cy);
        }
        return set;
    }

    /** Goes on from the first empty cell, in the cells' order. */
    int countAnswers(int[] grid, int limit) {
        int cell = 0;
        while (cell < cells && grid[cell] >= 0) {
            cell++;
        }
        if (cell == cells) {
            return 1;
        }
        int found = 0;
        for (int s = 0; s < n && found < limit; s++) {
            if (fits(grid, cell, s)) {
                grid[cell] = s;
                found += countAnswers(grid, limit - found);
                grid[cell] = -1;
            }
        }
        return found;
    }

    int[] drawWhole() {
        int restarts = 0;
        int[] grid = emptyGrid();
        while (true) {
            int best = -1;
            for (int cell = 0; cell < cells; cell++) {
                if (grid[cell] < 0 && (best < 0 || may(grid, cell).size() < may(grid, best).size())) {
                    best = cell;
                }
            }
            if (best < 0) {
                return grid;
            }
            List<Integer> some = may(grid, best);
            if (some.isEmpty()) {
                restarts++;
                told[1]++;
                if (restarts == 200) {
                    return null;
                }
                grid = emptyGrid();
            } else {
                grid[best] = some.get(below(some.size()));
            }
        }
    }

    int[] emptyGrid() {
        int[] grid = new int[cells];
        java.util.Arrays.fill(grid, -1);
        return grid;
    }

    boolean hasTheme(TreeSet<Integer> set, int theme) {
        for (int cell : set) {
            if (themes[cell] == theme) {
                return true;
            }
        }
        return false;
    }

    int unknown(int[] givens) {
        return unknownBy(givens, 15);
    }

    /** One single at a time, and then all over again; looked for as bits: 1 by cell, 2 row, 4 column, 8 box. */
    int unknownBy(int[] givens, int looked) {
        int[] grid = givens.clone();
        while (placeSingle(grid, looked)) {
            continue;
        }
        int count = 0;
        for (int s : grid) {
            count += s < 0 ? 1 : 0;
        }
        return count;
    }

    private boolean placeSingle(int[] grid, int looked) {
        for (int cell = 0; cell < cells; cell++) {
            if (grid[cell] < 0) {
                List<Integer> some = may(grid, cell);
                if (some.size() == 1 && (looked & 1) != 0) {
                    grid[cell] = some.get(0);
                    return true;
                }
                for (int s : some) {
                    if (isAlone(grid, cell, s, looked)) {
                        grid[cell] = s;
                        return true;
                    }
                }
            }
        }
        return false;
    }

    private boolean isAlone(int[] grid, int cell, int symbol, int looked) {
        int width = n == 4 ? 2 : 3;
        boolean inRow = (looked & 2) != 0;
        boolean inColumn = (looked & 4) != 0;
        boolean inBox = (looked & 8) != 0;
        for (int other = 0; other < cells; other++) {
            if (other != cell && grid[other] < 0 && fits(grid, other, symbol)) {
                inRow &= other / n != cell / n;
                inColumn &= other % n != cell % n;
                inBox &= other / n / 2 != cell / n / 2 || other % n / width != cell % n / width;
            }
        }
        return inRow || inColumn || inBox;
    }

    static int givensOf(int[] grid) {
        int count = 0;
        for (int s : grid) {
            count += s >= 0 ? 1 : 0;
        }
        return count;
    }

    boolean tryOnce() {
        int[] whole = drawWhole();
        if (whole == null) {
            return false;
        }
        int[] givens = whole.clone();
        List<TreeSet<Integer>> row = new ArrayList<>();
        boolean clash = false;
        for (int cell = 0; cell < cells; cell++) {
            TreeSet<Integer> set = setOf(cell);
            if (hasTheme(set, 2)) {
                clash |= hasTheme(set, 1);
                givens[cell] = -1;
            } else if (set.first() == cell && !hasTheme(set, 1)) {
                row.add(set);
            }
        }
        if (clash || countAnswers(givens.clone(), 2) > 1) {
            return false;
        }
        for (int i = row.size() - 1; i >= 1; i--) {
            java.util.Collections.swap(row, i, below(i + 1));
        }
        for (TreeSet<Integer> set : row) {
            int[] fewer = givens.clone();
            for (int cell : set) {
                fewer[cell] = -1;
            }
            told[2]++;
            if (countAnswers(fewer.clone(), 2) > 1) {
                told[3]++;
            } else {
                givens = fewer;
            }
        }
        boolean easy = unknown(givens) == 0;
        int count = givensOf(givens);
        if (count < aimLeast || count > aimMost || aimEasy == 1 && !easy || aimEasy == 2 && easy) {
            return false;
        }
        puzzle = givens;
        solution = whole;
        return true;
    }

    int make(long seed, int tries) {
        if (tries < 1 || tries > 40) {
            return -2;
        }
        java.util.Arrays.fill(told, 0);
        x = seed;
        puzzle = null;
        for (int t = 1; t <= tries; t++) {
            told[0] = t;
            if (tryOnce()) {
                told[4] = givensOf(puzzle);
                told[5] = unknown(puzzle) == 0 ? 1 : 0;
                return t;
            }
        }
        return -1;
    }

    int told(int what) {
        return what == 6 ? (int) (x >>> 33) : what >= 0 && what < 6 ? told[what] : -1;
    }

    int left() {
        return puzzle == null ? -1 : unknown(puzzle);
    }

    boolean needed(int cell) {
        if (puzzle == null) {
            return false;
        }
        int[] fewer = puzzle.clone();
        for (int other : setOf(cell)) {
            fewer[other] = -1;
        }
        return givensOf(fewer) < givensOf(puzzle) && countAnswers(fewer, 2) > 1;
    }

    boolean unit(int u) {
        if (u < 0 || u > 255 || text.size() == 60) {
            return false;
        }
        text.add(u);
        return true;
    }

    int answers() {
        List<Integer> bytes = new ArrayList<>(text);
        text.clear();
        int[] grid = emptyGrid();
        for (int i = 0; i < bytes.size(); i++) {
            int b = bytes.get(i);
            if (i >= cells || b != '.' && (b < '1' || b >= '1' + n || !fits(grid, i, b - '1'))) {
                return -1 - i;
            }
            grid[i] = b == '.' ? -1 : b - '1';
        }
        return bytes.size() < cells ? -1 - bytes.size() : countAnswers(grid, 100);
    }

    int text(int i) {
        if (puzzle == null || i < 0 || i >= cells) {
            return -1;
        }
        return puzzle[i] < 0 ? '.' : '1' + puzzle[i];
    }

    int given(int cell) {
        return puzzle == null ? -1 : puzzle[cell];
    }

    int answer(int cell) {
        return puzzle == null ? -1 : solution[cell];
    }

    /** A byte that can be next in the text, or a point. */
    int nextByte(java.util.Random random) {
        int[] grid = emptyGrid();
        for (int i = 0; i < text.size() && i < cells; i++) {
            grid[i] = text.get(i) == '.' ? -1 : text.get(i) - '1';
        }
        List<Integer> some = text.size() < cells ? may(grid, text.size()) : List.of();
        return some.isEmpty() || random.nextInt(2) == 0 ? '.' : '1' + some.get(random.nextInt(some.size()));
    }
}
