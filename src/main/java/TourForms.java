/**
 * Tours of pieces, queens that do not attack each other, rectangles of numbers without repeats and
 * magic squares, all but the last on one board of at most six by six cells.
 */
public final class TourForms {
    private static final int MOST_SIDE = 6;
    private static final int MOST_CELLS = 36;
    private static final int PIECES = 3;
    private static final int MOST_WAYS_ON = 8;
    private static final int MOST_STEPS = 100000;
    private static final int MOST_FILLS = 1000;
    private static final int MOST_MAGIC = 15;
    private static final int NO_WAY = -1;

    private static final int FOUND = 0;
    private static final int NONE = 1;
    private static final int STEPS_SPENT = 2;

    private final Board board;
    private final TourSearch search;
    private final QueenSearch queenSearch;
    private final Rectangle rectangle;
    private int startCell;

    public TourForms(int width, int height) {
        int columns = heldToSide(width);
        int rows = heldToSide(height);
        board = new Board(columns, rows);
        search = new TourSearch(columns, rows);
        queenSearch = new QueenSearch(columns, rows);
        rectangle = new Rectangle(columns, rows);
        startCell = 0;
    }

    public boolean bar(int x, int y, boolean on) {
        int cell = board.cellAt(x, y);
        if (cell < 0 || board.isFree(cell) != on) {
            return false;
        }
        board.turnBar(cell);
        search.forget();
        return true;
    }

    public boolean start(int x, int y) {
        int cell = board.cellAt(x, y);
        if (cell < 0) {
            return false;
        }
        startCell = cell;
        search.forget();
        return true;
    }

    public int tour(int piece, boolean closed, int steps) {
        if (!isPiece(piece) || steps < 0 || steps > MOST_STEPS) {
            return -1;
        }
        if (!board.isFree(startCell)) {
            search.giveUp();
            return NONE;
        }
        search.begin(piece, startCell, board.freeCells());
        return search.run(closed, steps);
    }

    public int at(int k) {
        return search.cellOfTour(k);
    }

    public int steps() {
        return search.stepsMade();
    }

    public int ways(int piece, int cell) {
        if (!isPiece(piece) || !board.hasCell(cell)) {
            return -1;
        }
        return Long.bitCount(search.reach(piece, cell) & board.freeCells());
    }

    public int queens() {
        return queenSearch.countWays(board.freeCells());
    }

    public int queen(int k, int column) {
        return queenSearch.rowInWay(board.freeCells(), k, column);
    }

    public boolean given(int x, int y, int v) {
        int cell = board.cellAt(x, y);
        if (cell < 0 || !rectangle.allows(v)) {
            return false;
        }
        rectangle.give(cell, v);
        return true;
    }

    public boolean fill() {
        return rectangle.findLeast();
    }

    public int number(int x, int y) {
        int cell = board.cellAt(x, y);
        return cell < 0 ? -1 : rectangle.foundAt(cell);
    }

    public int fills(int most) {
        if (most < 0 || most > MOST_FILLS) {
            return -1;
        }
        return rectangle.countUpTo(most);
    }

    /**
     * Each run of n numbers goes up and right until it would come to its own first cell; the next run
     * begins one below its last number, which is two rows down and one column left of its first. So
     * x + y alone tells the run, and the row then tells the place in it.
     */
    public int magic(int n, int x, int y) {
        if (n < 1 || n > MOST_MAGIC || n % 2 == 0 || x < 0 || x >= n || y < 0 || y >= n) {
            return -1;
        }
        int run = Math.floorMod(x + y - (n - 1) / 2, n);
        int place = Math.floorMod(2 * run - y, n);
        return run * n + place + 1;
    }

    private static int heldToSide(int length) {
        return Math.max(1, Math.min(MOST_SIDE, length));
    }

    private static boolean isPiece(int piece) {
        return piece >= 0 && piece < PIECES;
    }

    /** The cells, and which of them are barred. */
    private static final class Board {
        private final int width;
        private final int height;
        private final int cells;
        private long free;

        Board(int width, int height) {
            this.width = width;
            this.height = height;
            cells = width * height;
            free = (1L << cells) - 1L;
        }

        int cellAt(int x, int y) {
            return x < 0 || x >= width || y < 0 || y >= height ? -1 : x + width * y;
        }

        boolean hasCell(int cell) {
            return cell >= 0 && cell < cells;
        }

        boolean isFree(int cell) {
            return hasCell(cell) && (free >>> cell & 1L) != 0L;
        }

        long freeCells() {
            return free;
        }

        void turnBar(int cell) {
            if (hasCell(cell)) {
                free ^= 1L << cell;
            }
        }
    }

    /** The search for a tour; it goes by turns, not by recursion, so that its steps alone bound it. */
    private static final class TourSearch {
        /** For each piece and cell the cells to which it goes from there, barred ones too, as bits. */
        private final long[] reaches;
        private final int[] path = new int[MOST_CELLS];
        /** For each place of the path the ways on from it, in the order in which they are tried. */
        private final int[] waysOn = new int[MOST_CELLS * MOST_WAYS_ON];
        private final int[] waysOnCount = new int[MOST_CELLS];
        private final int[] waysOnTried = new int[MOST_CELLS];
        private int piece;
        private long open;
        private int length;
        private int made;
        private boolean found;

        TourSearch(int width, int height) {
            reaches = reachesOn(width, height);
        }

        private static long[] reachesOn(int width, int height) {
            long[] reaches = new long[PIECES * MOST_CELLS];
            for (int y = 0; y < height && y < MOST_SIDE; y++) {
                for (int x = 0; x < width && x < MOST_SIDE; x++) {
                    for (int piece = 0; piece < PIECES; piece++) {
                        int place = piece * MOST_CELLS + x + width * y;
                        if (place >= 0 && place < reaches.length) {
                            reaches[place] = reachFrom(piece, x, y, width, height);
                        }
                    }
                }
            }
            return reaches;
        }

        private static long reachFrom(int piece, int x, int y, int width, int height) {
            long reach = 0L;
            for (int toY = Math.max(0, y - 2); toY <= y + 2 && toY < height; toY++) {
                for (int toX = Math.max(0, x - 2); toX <= x + 2 && toX < width; toX++) {
                    if (goes(piece, (toX - x) * (toX - x) + (toY - y) * (toY - y))) {
                        reach |= 1L << (toX + width * toY);
                    }
                }
            }
            return reach;
        }

        private static boolean goes(int piece, int distanceSquared) {
            if (piece == 0) {
                return distanceSquared == 5;
            }
            return distanceSquared == 1 || piece == 1 && distanceSquared == 2;
        }

        long reach(int piece, int cell) {
            return isPiece(piece) && cell >= 0 && cell < MOST_CELLS ? reaches[piece * MOST_CELLS + cell] : 0L;
        }

        void forget() {
            found = false;
        }

        void giveUp() {
            found = false;
            made = 0;
        }

        void begin(int pieceToGo, int firstCell, long freeCells) {
            giveUp();
            piece = pieceToGo;
            open = freeCells;
            length = 0;
            enter(firstCell);
        }

        int run(boolean closed, int mostSteps) {
            // A turn is a step, or a going back (one for each step at most, and one from the first
            // cell), or it ends the run.
            int mostTurns = 2 * mostSteps + 2;
            for (int turn = 0; turn < mostTurns && length > 0; turn++) {
                if (open == 0L && (!closed || closes())) {
                    found = true;
                    return FOUND;
                }
                int next = nextCell();
                if (next < 0) {
                    goBack();
                } else if (made >= mostSteps) {
                    return STEPS_SPENT;
                } else {
                    made++;
                    enter(next);
                }
            }
            return NONE;
        }

        int cellOfTour(int k) {
            return found && k >= 0 && k < length && k < MOST_CELLS ? path[k] : -1;
        }

        int stepsMade() {
            return made;
        }

        /** No piece goes from a cell to itself, so a tour of a single cell does not close. */
        private boolean closes() {
            if (length < 1 || length > MOST_CELLS) {
                return false;
            }
            return (reach(piece, path[length - 1]) >>> path[0] & 1L) != 0L;
        }

        private void enter(int cell) {
            if (length < 0 || length >= MOST_CELLS) {
                return;
            }
            open &= ~(1L << cell);
            path[length] = cell;
            waysOnTried[length] = 0;
            waysOnCount[length] = listWaysOn(cell, length * MOST_WAYS_ON);
            length++;
        }

        private void goBack() {
            if (length < 1 || length > MOST_CELLS) {
                return;
            }
            length--;
            open |= 1L << path[length];
        }

        /** The next way on from the last cell, or NO_WAY when all have been tried. */
        private int nextCell() {
            int last = length - 1;
            if (last < 0 || last >= MOST_CELLS) {
                return NO_WAY;
            }
            int tried = waysOnTried[last];
            if (tried < 0 || tried >= MOST_WAYS_ON || tried >= waysOnCount[last]) {
                return NO_WAY;
            }
            waysOnTried[last] = tried + 1;
            return waysOn[last * MOST_WAYS_ON + tried] % MOST_CELLS;
        }

        /** Lists the ways on by their keys, which put the fewest ways on first and then the cell. */
        private int listWaysOn(int cell, int from) {
            long left = reach(piece, cell) & open;
            int many = Math.min(MOST_WAYS_ON, Long.bitCount(left));
            for (int i = 0; i < many; i++) {
                long lowest = left & -left;
                left ^= lowest;
                int next = Long.bitCount(lowest - 1L);
                int key = Long.bitCount(reach(piece, next) & open) * MOST_CELLS + next;
                insertWayOn(key, from, i);
            }
            return many;
        }

        private void insertWayOn(int key, int from, int count) {
            if (from < 0 || count < 0 || from + count >= waysOn.length) {
                return;
            }
            int place = from + count;
            while (place > from && waysOn[place - 1] > key) {
                waysOn[place] = waysOn[place - 1];
                place--;
            }
            waysOn[place] = key;
        }
    }

    /** The ways to put queens, gone through in their order, column by column. */
    private static final class QueenSearch {
        private final int width;
        private final int height;
        private final int[] rows = new int[MOST_SIDE];
        private long free;
        private int waysSeen;

        QueenSearch(int width, int height) {
            this.width = Math.min(MOST_SIDE, width);
            this.height = Math.min(MOST_SIDE, height);
        }

        int countWays(long freeCells) {
            free = freeCells;
            waysSeen = 0;
            placeFrom(0, NO_WAY);
            return waysSeen;
        }

        int rowInWay(long freeCells, int way, int column) {
            if (way < 0 || column < 0 || column >= width) {
                return -1;
            }
            free = freeCells;
            waysSeen = 0;
            return placeFrom(0, way) ? rows[column] : -1;
        }

        /** Goes on until the way looked for stands in the rows: true; false when all are gone through. */
        private boolean placeFrom(int column, int way) {
            if (column < width) {
                return placeIn(column, way);
            }
            waysSeen++;
            return waysSeen - 1 == way;
        }

        private boolean placeIn(int column, int way) {
            if (column < 0 || column >= width) {
                return false;
            }
            for (int row = 0; row < height; row++) {
                if (canStand(column, row)) {
                    rows[column] = row;
                    if (placeFrom(column + 1, way)) {
                        return true;
                    }
                }
            }
            return false;
        }

        private boolean canStand(int column, int row) {
            if ((free >>> (column + width * row) & 1L) == 0L) {
                return false;
            }
            for (int other = 0; other < column && other < MOST_SIDE; other++) {
                int apart = Math.abs(rows[other] - row);
                if (apart == 0 || apart == column - other) {
                    return false;
                }
            }
            return true;
        }
    }

    /**
     * The rectangle of numbers; a set of numbers is held as bits 1 to the greatest, and the sets of all
     * columns, or of all rows, stand side by side in one long.
     */
    private static final class Rectangle {
        private static final int BITS_OF_LINE = 8;
        private static final long FIRST_BIT_OF_LINES = 0x010101010101L;

        private final int cells;
        private final int greatest;
        private final int shorterSide;
        private final int all;
        private final int[] fixed = new int[MOST_CELLS];
        private final int[] least = new int[MOST_CELLS];
        private final int[] tried = new int[MOST_CELLS];
        /** The last rectangle that a search filled up: a proof that what it began with can be. */
        private final int[] witness = new int[MOST_CELLS];
        /** For each cell where the set of its column, and of its row, begins. */
        private final int[] columnBegins = new int[MOST_CELLS];
        private final int[] rowBegins = new int[MOST_CELLS];
        private long usedInColumns;
        private long usedInRows;
        private boolean found;

        Rectangle(int width, int height) {
            cells = Math.min(MOST_CELLS, width * height);
            greatest = Math.max(width, height);
            shorterSide = Math.min(width, height);
            all = (2 << greatest) - 2;
            for (int y = 0; y < height && y < MOST_SIDE; y++) {
                for (int x = 0; x < width && x < MOST_SIDE; x++) {
                    int cell = x + width * y;
                    if (cell >= 0 && cell < MOST_CELLS) {
                        columnBegins[cell] = BITS_OF_LINE * x;
                        rowBegins[cell] = BITS_OF_LINE * y;
                    }
                }
            }
        }

        boolean allows(int v) {
            return v >= 0 && v <= greatest;
        }

        void give(int cell, int v) {
            if (cell >= 0 && cell < MOST_CELLS) {
                fixed[cell] = v;
                found = false;
            }
        }

        int foundAt(int cell) {
            return found && cell >= 0 && cell < MOST_CELLS ? least[cell] : 0;
        }

        int countUpTo(int most) {
            return most > 0 && layGiven() ? countFrom(0, most) : 0;
        }

        /**
         * Settles cell after cell on the least number that leaves a rectangle. Whether one is left is
         * asked of the search that takes the narrowest cell first: going on in the order of the cells
         * could take millions of tries to see that the last rows cannot be filled up.
         */
        boolean findLeast() {
            found = layGiven() && countFrom(0, 1) > 0;
            for (int cell = 0; found && cell < cells; cell++) {
                if (tried[cell] == 0) {
                    settle(cell);
                }
            }
            if (found) {
                System.arraycopy(tried, 0, least, 0, MOST_CELLS);
            }
            return found;
        }

        private void settle(int cell) {
            if (cell < 0 || cell >= MOST_CELLS) {
                return;
            }
            int known = witness[cell];
            int choices = choicesAt(cell);
            for (int v = 1; v < known; v++) {
                if ((choices >>> v & 1) != 0) {
                    put(cell, v);
                    if (countFrom(0, 1) > 0) {
                        return;
                    }
                    take(cell, v);
                }
            }
            put(cell, known);
        }

        /** Begins a search with what is given: false when two given numbers are against each other. */
        private boolean layGiven() {
            usedInColumns = 0L;
            usedInRows = 0L;
            for (int cell = 0; cell < cells; cell++) {
                tried[cell] = 0;
            }
            for (int cell = 0; cell < cells; cell++) {
                int v = fixed[cell];
                if (v != 0) {
                    if ((choicesAt(cell) >>> v & 1) == 0) {
                        return false;
                    }
                    put(cell, v);
                }
            }
            return true;
        }

        /** How many rectangles, most at the most, there are with what stands; leaves it as it was. */
        private int countFrom(int depth, int most) {
            int cell = narrowestOpenCell();
            if (cell < 0) {
                System.arraycopy(tried, 0, witness, 0, MOST_CELLS);
                return 1;
            }
            int choices = choicesAt(cell);
            boolean inVain = depth >= MOST_CELLS || Integer.bitCount(choices) > 1 && someNumberLacksPlaces();
            return inVain ? 0 : countWith(cell, choices, depth, most);
        }

        private int countWith(int cell, int choices, int depth, int most) {
            int count = 0;
            for (int v = 1; v <= greatest && count < most; v++) {
                if ((choices >>> v & 1) != 0) {
                    put(cell, v);
                    count += countFrom(depth + 1, most - count);
                    take(cell, v);
                }
            }
            return count;
        }

        private int narrowestOpenCell() {
            int narrowest = -1;
            int fewest = greatest + 1;
            for (int cell = 0; cell < cells && fewest > 1; cell++) {
                if (tried[cell] == 0) {
                    int many = Integer.bitCount(choicesAt(cell));
                    if (many < fewest) {
                        fewest = many;
                        narrowest = cell;
                    }
                }
            }
            return narrowest;
        }

        /**
         * The longer lines hold every number, so that each number stands in as many rows, and in as
         * many columns, as the shorter side is long. Without this look ahead a search on a board that
         * is not square finds out too late.
         */
        private boolean someNumberLacksPlaces() {
            long possibleInColumns = usedInColumns;
            long possibleInRows = usedInRows;
            for (int cell = 0; cell < cells; cell++) {
                if (tried[cell] == 0) {
                    long choices = choicesAt(cell);
                    possibleInColumns |= choices << columnBegins[cell];
                    possibleInRows |= choices << rowBegins[cell];
                }
            }
            for (int v = 1; v <= greatest; v++) {
                if (linesWith(possibleInColumns, v) < shorterSide || linesWith(possibleInRows, v) < shorterSide) {
                    return true;
                }
            }
            return false;
        }

        private static int linesWith(long lines, int v) {
            return Long.bitCount(lines >>> v & FIRST_BIT_OF_LINES);
        }

        private int choicesAt(int cell) {
            if (cell < 0 || cell >= MOST_CELLS) {
                return 0;
            }
            return all & ~(int) (usedInColumns >>> columnBegins[cell] | usedInRows >>> rowBegins[cell]);
        }

        private void put(int cell, int v) {
            if (cell < 0 || cell >= MOST_CELLS) {
                return;
            }
            tried[cell] = v;
            usedInColumns |= 1L << (columnBegins[cell] + v);
            usedInRows |= 1L << (rowBegins[cell] + v);
        }

        private void take(int cell, int v) {
            if (cell < 0 || cell >= MOST_CELLS) {
                return;
            }
            tried[cell] = 0;
            usedInColumns &= ~(1L << (columnBegins[cell] + v));
            usedInRows &= ~(1L << (rowBegins[cell] + v));
        }
    }
}
