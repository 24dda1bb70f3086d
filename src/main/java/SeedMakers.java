/**
 * Makers of number place by seeds. The face only checks what it is asked and hands it on; the classes
 * inside make their rows once, in their constructors, so that no call leaves anything behind.
 */
public final class SeedMakers {
    private static final int MOST_TRIES = 40;
    private static final int MOST_COUNTED = 100;
    private static final int SYMMETRIES = 4;
    private static final int THEMES = 3;
    private static final int AIMS = 3;

    private final Grid grid;
    private final Sets sets;
    private final int[] themes;
    private final Aim aimed;
    private final Maker maker;
    private final Typed typed;

    public SeedMakers(int kind) {
        grid = new Grid(kind <= 0 ? 4 : 6);
        sets = new Sets(grid);
        themes = new int[grid.cells];
        aimed = new Aim();
        maker = new Maker(grid, sets, themes, aimed);
        typed = new Typed(grid);
    }

    public boolean symmetry(int k) {
        if (k < 0 || k >= SYMMETRIES) {
            return false;
        }
        sets.joinBy(k);
        return true;
    }

    public void theme(int cell, int what) throws ArrayIndexOutOfBoundsException, IllegalArgumentException {
        if (!grid.has(cell)) {
            throw new ArrayIndexOutOfBoundsException("there is no such cell");
        }
        if (what < 0 || what >= THEMES) {
            throw new IllegalArgumentException("there is no such theme");
        }
        themes[cell] = what;
    }

    public void aim(int easy, int least, int most) throws IllegalArgumentException {
        if (easy < 0 || easy >= AIMS) {
            throw new IllegalArgumentException("easy is 0, 1 or 2");
        }
        if (least < 0 || least > most) {
            throw new IllegalArgumentException("least is from 0 to most");
        }
        aimed.set(easy, least, most);
    }

    public int make(long seed, int tries) {
        if (tries < 1 || tries > MOST_TRIES) {
            return -2;
        }
        maker.startAt(seed);
        for (int i = 1; i <= tries; i++) {
            if (maker.tryOnce()) {
                return i;
            }
        }
        return -1;
    }

    public int given(int cell) throws ArrayIndexOutOfBoundsException {
        if (!grid.has(cell)) {
            throw new ArrayIndexOutOfBoundsException("there is no such cell");
        }
        return maker.made ? maker.givens[cell] : -1;
    }

    public int answer(int cell) throws ArrayIndexOutOfBoundsException {
        if (!grid.has(cell)) {
            throw new ArrayIndexOutOfBoundsException("there is no such cell");
        }
        return maker.made ? maker.whole[cell] : -1;
    }

    public int told(int what) {
        switch (what) {
            case 0:
                return maker.triesMade;
            case 1:
                return maker.restarts;
            case 2:
                return maker.takenOut;
            case 3:
                return maker.putBack;
            case 4:
                return maker.made ? maker.givenCells : 0;
            case 5:
                return maker.made && maker.unknownCells == 0 ? 1 : 0;
            case 6:
                return maker.chance.upperBits();
            default:
                return -1;
        }
    }

    public int left() {
        return maker.made ? maker.unknownCells : -1;
    }

    public boolean needed(int cell) throws ArrayIndexOutOfBoundsException {
        if (!grid.has(cell)) {
            throw new ArrayIndexOutOfBoundsException("there is no such cell");
        }
        return maker.made && maker.needsSet(sets.leastOf[cell]);
    }

    public int answers() {
        int wrong = typed.read();
        if (wrong >= 0) {
            return -1 - wrong;
        }
        return maker.solver.count(typed.symbols, MOST_COUNTED);
    }

    public boolean unit(int u) {
        return typed.add(u);
    }

    public int text(int i) {
        if (!maker.made || !grid.has(i)) {
            return -1;
        }
        return Typed.byteOf(maker.givens[i]);
    }

    /** Which cells share a row, a column or a box. */
    private static final class Grid {
        private static final int BOX_HEIGHT = 2;
        private static final int BOXES_ACROSS = 2;

        final int side;
        final int cells;
        final int allSymbols;
        final int[] row;
        final int[] column;
        final int[] box;
        /** The cells of each row, then of each column, then of each box. */
        final int[][] units;

        Grid(int side) {
            this.side = side;
            cells = side * side;
            allSymbols = (1 << side) - 1;
            row = new int[cells];
            column = new int[cells];
            box = new int[cells];
            units = new int[3 * side][side];
            int boxWidth = side / BOXES_ACROSS;
            for (int y = 0; y < side; y++) {
                for (int x = 0; x < side; x++) {
                    int cell = side * y + x;
                    int top = y / BOX_HEIGHT * BOX_HEIGHT;
                    boolean atRight = x >= boxWidth;
                    row[cell] = y;
                    column[cell] = x;
                    // Two boxes stand side by side and are two high, so a box's number is its top row's or the next.
                    box[cell] = atRight ? top + 1 : top;
                    units[y][x] = cell;
                    units[side + x][y] = cell;
                    units[2 * side + box[cell]][(y - top) * boxWidth + (atRight ? x - boxWidth : x)] = cell;
                }
            }
        }

        boolean has(int cell) {
            return cell >= 0 && cell < cells;
        }
    }

    /** The sets that cells go together in, each named by its least cell. */
    private static final class Sets {
        private static final int TURNS = 4;

        private final Grid grid;
        final int[] leastOf;

        Sets(Grid grid) {
            this.grid = grid;
            leastOf = new int[grid.cells];
            for (int cell = 0; cell < grid.cells; cell++) {
                leastOf[cell] = cell;
            }
        }

        void joinBy(int symmetry) {
            for (int cell = 0; cell < grid.cells; cell++) {
                int least = cell;
                int at = cell;
                // Four moves come round to the cell again by every symmetry.
                for (int turn = 0; turn < TURNS; turn++) {
                    at = moved(at, symmetry);
                    least = Math.min(least, at);
                }
                leastOf[cell] = least;
            }
        }

        private int moved(int cell, int symmetry) {
            int last = grid.side - 1;
            int x = grid.column[cell];
            int y = grid.row[cell];
            switch (symmetry) {
                case 1:
                    return grid.side * (last - y) + last - x;
                case 2:
                    return grid.side * y + last - x;
                case 3:
                    return grid.side * x + last - y;
                default:
                    return cell;
            }
        }
    }

    /** What is aimed at; at first all. */
    private static final class Aim {
        private static final int EASY_ALONE = 1;
        private static final int OTHERS_ALONE = 2;

        private int easy = 0;
        private int least = 0;
        private int most = Integer.MAX_VALUE;

        void set(int newEasy, int newLeast, int newMost) {
            easy = newEasy;
            least = newLeast;
            most = newMost;
        }

        boolean isMet(int givenCells, boolean isEasy) {
            if (givenCells < least || givenCells > most) {
                return false;
            }
            return !(easy == EASY_ALONE && !isEasy) && !(easy == OTHERS_ALONE && isEasy);
        }
    }

    /** The document's chance. */
    private static final class Chance {
        private static final long FACTOR = 6364136223846793005L;
        private static final long STEP = 1442695040888963407L;
        private static final int LOWER_BITS = 33;

        private long state = 0;

        void startAt(long seed) {
            state = seed;
        }

        int below(int k) {
            state = FACTOR * state + STEP;
            return k < 1 ? 0 : upperBits() % k;
        }

        int upperBits() {
            return (int) (state >>> LOWER_BITS);
        }
    }

    /** Symbols in cells, with the symbols of each row, column and box as bits. */
    private static final class Board {
        final Grid grid;
        final int[] symbols;
        private final int[] inRow;
        private final int[] inColumn;
        private final int[] inBox;

        Board(Grid grid) {
            this.grid = grid;
            symbols = new int[grid.cells];
            inRow = new int[grid.side];
            inColumn = new int[grid.side];
            inBox = new int[grid.side];
            clear();
        }

        void clear() {
            for (int cell = 0; cell < grid.cells; cell++) {
                symbols[cell] = -1;
            }
            for (int i = 0; i < grid.side; i++) {
                inRow[i] = 0;
                inColumn[i] = 0;
                inBox[i] = 0;
            }
        }

        void putAll(int[] givens) {
            clear();
            for (int cell = 0; cell < grid.cells && cell < givens.length; cell++) {
                if (givens[cell] >= 0) {
                    put(cell, givens[cell]);
                }
            }
        }

        boolean isEmpty(int cell) {
            return symbols[cell] < 0;
        }

        /** The symbols that no cell that this one sees has, as bits. */
        int may(int cell) {
            return grid.allSymbols & ~(inRow[grid.row[cell]] | inColumn[grid.column[cell]] | inBox[grid.box[cell]]);
        }

        void put(int cell, int symbol) {
            symbols[cell] = symbol;
            flip(cell, 1 << symbol);
        }

        void takeOut(int cell) {
            int symbol = symbols[cell];
            if (symbol >= 0) {
                symbols[cell] = -1;
                flip(cell, 1 << symbol);
            }
        }

        private void flip(int cell, int bit) {
            inRow[grid.row[cell]] ^= bit;
            inColumn[grid.column[cell]] ^= bit;
            inBox[grid.box[cell]] ^= bit;
        }
    }

    /** Counts answers up to a limit. */
    private static final class Solver {
        private final Board board;
        private final int[] open;
        private int limit = 0;
        private int found = 0;

        Solver(Grid grid) {
            board = new Board(grid);
            open = new int[grid.cells];
        }

        int count(int[] givens, int most) {
            board.putAll(givens);
            int openCells = 0;
            for (int cell = 0; cell < open.length; cell++) {
                if (board.isEmpty(cell)) {
                    open[openCells] = cell;
                    openCells++;
                }
            }
            limit = most;
            found = 0;
            search(openCells);
            return found;
        }

        /**
         * Tries the first so many open cells. A deeper search only changes the order among those before the
         * cell that is tried here, so nothing has to be put in order again behind it.
         */
        private void search(int openCells) {
            if (openCells < 1) {
                found++;
                return;
            }
            // Never so: it shows that the search goes no deeper than there are cells.
            if (openCells > open.length) {
                return;
            }
            int at = tightest(openCells);
            int cell = open[at];
            open[at] = open[openCells - 1];
            open[openCells - 1] = cell;
            int may = board.may(cell);
            for (int symbol = 0; symbol < board.grid.side && found < limit; symbol++) {
                if ((may >> symbol & 1) != 0) {
                    board.put(cell, symbol);
                    search(openCells - 1);
                    board.takeOut(cell);
                }
            }
        }

        private int tightest(int openCells) {
            int best = 0;
            int fewest = Integer.MAX_VALUE;
            // Which cell is tried first does not change the count, so one without a choice is taken at once.
            for (int i = 0; i < openCells && fewest > 1; i++) {
                int ways = Integer.bitCount(board.may(open[i]));
                if (ways < fewest) {
                    fewest = ways;
                    best = i;
                }
            }
            return best;
        }
    }

    /** Finds what singles alone make known. */
    private static final class Singles {
        private final Grid grid;
        private final Board board;

        Singles(Grid grid) {
            this.grid = grid;
            board = new Board(grid);
        }

        int countUnknown(int[] givens) {
            board.putAll(givens);
            boolean more = true;
            // Each round but the last makes a cell known.
            for (int round = 0; round <= grid.cells && more; round++) {
                boolean byCell = fillLoneSymbols();
                boolean byUnit = fillLoneCells();
                more = byCell || byUnit;
            }
            int unknown = 0;
            for (int cell = 0; cell < grid.cells; cell++) {
                if (board.isEmpty(cell)) {
                    unknown++;
                }
            }
            return unknown;
        }

        private boolean fillLoneSymbols() {
            boolean some = false;
            for (int cell = 0; cell < grid.cells; cell++) {
                if (board.isEmpty(cell)) {
                    int may = board.may(cell);
                    if (Integer.bitCount(may) == 1) {
                        board.put(cell, Integer.numberOfTrailingZeros(may));
                        some = true;
                    }
                }
            }
            return some;
        }

        private boolean fillLoneCells() {
            boolean some = false;
            for (int u = 0; u < grid.units.length; u++) {
                int lone = symbolsOfOneCell(grid.units[u]);
                if (lone != 0 && fillFrom(grid.units[u], lone)) {
                    some = true;
                }
            }
            return some;
        }

        private int symbolsOfOneCell(int[] cells) {
            int once = 0;
            int twice = 0;
            for (int i = 0; i < cells.length; i++) {
                if (board.isEmpty(cells[i])) {
                    int may = board.may(cells[i]);
                    twice |= once & may;
                    once |= may;
                }
            }
            return once & ~twice;
        }

        private boolean fillFrom(int[] cells, int lone) {
            boolean some = false;
            for (int i = 0; i < cells.length; i++) {
                if (board.isEmpty(cells[i])) {
                    int hit = board.may(cells[i]) & lone;
                    if (hit != 0) {
                        board.put(cells[i], Integer.numberOfTrailingZeros(hit));
                        some = true;
                    }
                }
            }
            return some;
        }
    }

    /** Draws a whole answer by chance. */
    private static final class Drawer {
        private final Grid grid;
        private final Chance chance;
        final Board board;

        Drawer(Grid grid, Chance chance) {
            this.grid = grid;
            this.chance = chance;
            board = new Board(grid);
        }

        /** False when a cell may have no symbol: then the document asks for a restart. */
        boolean fill() {
            board.clear();
            for (int step = 0; step < grid.cells; step++) {
                int cell = tightest();
                int may = board.may(cell);
                int ways = Integer.bitCount(may);
                if (ways == 0) {
                    return false;
                }
                board.put(cell, symbolAt(may, chance.below(ways)));
            }
            return true;
        }

        private int tightest() {
            int best = 0;
            int fewest = Integer.MAX_VALUE;
            for (int cell = 0; cell < grid.cells; cell++) {
                if (board.isEmpty(cell)) {
                    int ways = Integer.bitCount(board.may(cell));
                    if (ways < fewest) {
                        fewest = ways;
                        best = cell;
                    }
                }
            }
            return best;
        }

        private static int symbolAt(int may, int place) {
            int rest = may;
            for (int i = 0; i < place; i++) {
                rest &= rest - 1;
            }
            return Integer.numberOfTrailingZeros(rest);
        }
    }

    /** Makes tries, and holds what the latest make() came to. */
    private static final class Maker {
        private static final int MOST_RESTARTS = 200;
        private static final int GIVEN = 1;
        private static final int EMPTY = 2;

        private final Grid grid;
        private final Sets sets;
        private final int[] themes;
        private final Aim aimed;
        private final Drawer drawer;
        private final Singles singles;
        final Solver solver;
        final Chance chance;
        final int[] whole;
        final int[] givens;
        /** Of each set, at its least cell, whether a cell of it has the theme that is looked for. */
        private final boolean[] marked;
        private final int[] row;
        private final int[] without;
        boolean made = false;
        int triesMade = 0;
        int restarts = 0;
        int takenOut = 0;
        int putBack = 0;
        int givenCells = 0;
        int unknownCells = 0;

        Maker(Grid grid, Sets sets, int[] themes, Aim aimed) {
            this.grid = grid;
            this.sets = sets;
            this.themes = themes;
            this.aimed = aimed;
            chance = new Chance();
            drawer = new Drawer(grid, chance);
            singles = new Singles(grid);
            solver = new Solver(grid);
            whole = new int[grid.cells];
            givens = new int[grid.cells];
            marked = new boolean[grid.cells];
            row = new int[grid.cells];
            without = new int[grid.cells];
        }

        void startAt(long seed) {
            made = false;
            triesMade = 0;
            restarts = 0;
            takenOut = 0;
            putBack = 0;
            chance.startAt(seed);
        }

        /** True when the try is good: then what it came to is the puzzle. */
        boolean tryOnce() {
            triesMade++;
            if (!drawWhole() || !takeOutEmptySets()) {
                return false;
            }
            int length = layRow();
            mixRow(length);
            for (int i = 0; i < length; i++) {
                takenOut++;
                if (needsSet(row[i])) {
                    putBack++;
                } else {
                    // needsSet() has just laid out the givens without the set.
                    System.arraycopy(without, 0, givens, 0, givens.length);
                }
            }
            givenCells = countGivens();
            unknownCells = singles.countUnknown(givens);
            made = aimed.isMet(givenCells, unknownCells == 0);
            return made;
        }

        private boolean drawWhole() {
            boolean full = false;
            for (int i = 0; i < MOST_RESTARTS && !full; i++) {
                full = drawer.fill();
                if (!full) {
                    restarts++;
                }
            }
            if (full) {
                System.arraycopy(drawer.board.symbols, 0, whole, 0, whole.length);
                System.arraycopy(whole, 0, givens, 0, givens.length);
            }
            return full;
        }

        /** False when the try fails by it. */
        private boolean takeOutEmptySets() {
            markSetsWith(EMPTY);
            for (int cell = 0; cell < grid.cells; cell++) {
                if (marked[sets.leastOf[cell]]) {
                    if (themes[cell] == GIVEN) {
                        return false;
                    }
                    givens[cell] = -1;
                }
            }
            return solver.count(givens, 2) < 2;
        }

        private void markSetsWith(int theme) {
            for (int cell = 0; cell < grid.cells; cell++) {
                marked[cell] = false;
            }
            for (int cell = 0; cell < grid.cells; cell++) {
                if (themes[cell] == theme) {
                    marked[sets.leastOf[cell]] = true;
                }
            }
        }

        /** Puts the sets that may go, by their least cells, in the row; answers how many they are. */
        private int layRow() {
            markSetsWith(GIVEN);
            int length = 0;
            for (int cell = 0; cell < grid.cells; cell++) {
                if (sets.leastOf[cell] == cell && givens[cell] >= 0 && !marked[cell]) {
                    row[length] = cell;
                    length++;
                }
            }
            return length;
        }

        private void mixRow(int length) {
            for (int i = length - 1; i >= 1; i--) {
                int j = chance.below(i + 1);
                int kept = row[i];
                row[i] = row[j];
                row[j] = kept;
            }
        }

        /** Whether there is more than one answer without a set's givens; false when it has none. */
        boolean needsSet(int set) {
            boolean some = false;
            for (int cell = 0; cell < grid.cells; cell++) {
                boolean goes = sets.leastOf[cell] == set;
                some = some || goes && givens[cell] >= 0;
                without[cell] = goes ? -1 : givens[cell];
            }
            return some && solver.count(without, 2) > 1;
        }

        private int countGivens() {
            int count = 0;
            for (int cell = 0; cell < grid.cells; cell++) {
                if (givens[cell] >= 0) {
                    count++;
                }
            }
            return count;
        }
    }

    /** The text that unit() tells byte by byte. */
    private static final class Typed {
        private static final int MOST_BYTES = 60;
        private static final int MOST_BYTE = 255;
        private static final int POINT = '.';
        private static final int FIRST_DIGIT = '1';

        private final Grid grid;
        private final Board board;
        private final int[] bytes;
        private int length = 0;
        final int[] symbols;

        Typed(Grid grid) {
            this.grid = grid;
            board = new Board(grid);
            bytes = new int[MOST_BYTES];
            symbols = board.symbols;
        }

        static int byteOf(int symbol) {
            return symbol < 0 ? POINT : FIRST_DIGIT + symbol;
        }

        boolean add(int u) {
            if (u < 0 || u > MOST_BYTE || length >= MOST_BYTES) {
                return false;
            }
            bytes[length] = u;
            length++;
            return true;
        }

        /** Reads the text into the symbols and forgets it; answers the first wrong place, -1 when there is none. */
        int read() {
            int end = length;
            length = 0;
            board.clear();
            for (int cell = 0; cell < grid.cells; cell++) {
                if (cell >= end || !readByte(cell, bytes[cell])) {
                    return cell;
                }
            }
            return end > grid.cells ? grid.cells : -1;
        }

        private boolean readByte(int cell, int b) {
            if (b == POINT) {
                return true;
            }
            int symbol = b - FIRST_DIGIT;
            if (symbol < 0 || symbol >= grid.side || (board.may(cell) >> symbol & 1) == 0) {
                return false;
            }
            board.put(cell, symbol);
            return true;
        }
    }
}
