import java.util.ArrayList;
import java.util.Comparator;
import java.util.List;

/** The document once more, in the plainest way and without a look at the class under test. */
final class PlainForms {
    /** What count and least answer when going through all would take too long here. */
    static final int TOO_LONG = -2;
    private static final int MOST_NODES = 300_000;

    final int width;
    final int height;
    final int greatest;
    private final boolean[] barred;
    private final int[] given;
    private int start = 0;
    private List<Integer> tour = null;
    private int steps = 0;
    private int[] rectangle = null;

    private List<Integer> path;
    private int limit;
    private boolean spent;
    private int nodes;

    PlainForms(int w, int h) {
        width = w < 1 ? 1 : w > 6 ? 6 : w;
        height = h < 1 ? 1 : h > 6 ? 6 : h;
        greatest = Math.max(width, height);
        barred = new boolean[width * height];
        given = new int[width * height];
    }

    boolean isCell(int x, int y) {
        return x >= 0 && x < width && y >= 0 && y < height;
    }

    boolean bar(int x, int y, boolean on) {
        if (!isCell(x, y) || barred[x + width * y] == on) {
            return false;
        }
        barred[x + width * y] = on;
        tour = null;
        return true;
    }

    boolean start(int x, int y) {
        if (!isCell(x, y)) {
            return false;
        }
        start = x + width * y;
        tour = null;
        return true;
    }

    private boolean goes(int piece, int from, int to) {
        int right = Math.abs(from % width - to % width);
        int down = Math.abs(from / width - to / width);
        if (piece == 0) {
            return right == 1 && down == 2 || right == 2 && down == 1;
        }
        return piece == 1 ? Math.max(right, down) == 1 : right + down == 1;
    }

    private List<Integer> waysOn(int piece, int from, List<Integer> come) {
        List<Integer> all = new ArrayList<>();
        for (int to = 0; to < width * height; to++) {
            if (goes(piece, from, to) && !barred[to] && !come.contains(to)) {
                all.add(to);
            }
        }
        return all;
    }

    int tour(int piece, boolean closed, int most) {
        if (piece < 0 || piece > 2 || most < 0 || most > 100000) {
            return -1;
        }
        tour = null;
        steps = 0;
        limit = most;
        spent = false;
        path = new ArrayList<>();
        if (barred[start]) {
            return 1;
        }
        path.add(start);
        if (goOn(piece, closed)) {
            tour = path;
            return 0;
        }
        return spent ? 2 : 1;
    }

    private boolean goOn(int piece, boolean closed) {
        int here = path.get(path.size() - 1);
        int cells = 0;
        for (boolean b : barred) {
            cells += b ? 0 : 1;
        }
        if (path.size() == cells) {
            return !closed || goes(piece, here, start);
        }
        List<Integer> next = waysOn(piece, here, path);
        next.sort(Comparator.comparingInt((Integer to) -> {
            List<Integer> withIt = new ArrayList<>(path);
            withIt.add(to);
            return waysOn(piece, to, withIt).size();
        }).thenComparingInt(to -> to));
        for (int to : next) {
            if (spent || steps == limit) {
                spent = true;
                return false;
            }
            steps++;
            path.add(to);
            if (goOn(piece, closed)) {
                return true;
            }
            path.remove(path.size() - 1);
        }
        return false;
    }

    int at(int k) {
        return tour == null || k < 0 || k >= tour.size() ? -1 : tour.get(k);
    }

    int steps() {
        return steps;
    }

    int ways(int piece, int cell) {
        if (piece < 0 || piece > 2 || cell < 0 || cell >= width * height) {
            return -1;
        }
        return waysOn(piece, cell, new ArrayList<>()).size();
    }

    /** All ways, in order: each tuple of rows is tried, the last column's row changing fastest. */
    private List<int[]> queenWays() {
        List<int[]> all = new ArrayList<>();
        int tuples = 1;
        for (int column = 0; column < width; column++) {
            tuples *= height;
        }
        for (int tuple = 0; tuple < tuples; tuple++) {
            int[] rows = new int[width];
            int rest = tuple;
            for (int column = width - 1; column >= 0; column--) {
                rows[column] = rest % height;
                rest /= height;
            }
            if (stand(rows)) {
                all.add(rows);
            }
        }
        return all;
    }

    private boolean stand(int[] rows) {
        for (int a = 0; a < width; a++) {
            if (barred[a + width * rows[a]]) {
                return false;
            }
            for (int b = 0; b < a; b++) {
                if (rows[a] == rows[b] || Math.abs(rows[a] - rows[b]) == a - b) {
                    return false;
                }
            }
        }
        return true;
    }

    int queens() {
        return queenWays().size();
    }

    int queen(int k, int column) {
        List<int[]> all = queenWays();
        return k < 0 || k >= all.size() || column < 0 || column >= width ? -1 : all.get(k)[column];
    }

    boolean given(int x, int y, int v) {
        if (!isCell(x, y) || v < 0 || v > greatest) {
            return false;
        }
        given[x + width * y] = v;
        rectangle = null;
        return true;
    }

    /** 1 when one is found, 0 when there is none. */
    int fill() {
        int[] numbers = new int[width * height];
        nodes = 0;
        int found = fillFrom(0, numbers, 1);
        if (nodes > MOST_NODES) {
            return TOO_LONG;
        }
        return found;
    }

    int fills(int most) {
        if (most < 0 || most > 1000) {
            return -1;
        }
        int[] before = rectangle;
        nodes = 0;
        int count = most == 0 ? 0 : fillFrom(0, new int[width * height], most);
        rectangle = before;
        return nodes > MOST_NODES ? TOO_LONG : count;
    }

    private int fillFrom(int cell, int[] numbers, int most) {
        if (cell == width * height) {
            rectangle = numbers.clone();
            return 1;
        }
        int count = 0;
        for (int v = 1; v <= greatest && count < most && nodes <= MOST_NODES; v++) {
            if ((given[cell] == 0 || given[cell] == v) && isNewInLines(cell, numbers, v)) {
                nodes++;
                numbers[cell] = v;
                count += fillFrom(cell + 1, numbers, most - count);
                numbers[cell] = 0;
            }
        }
        return count;
    }

    private boolean isNewInLines(int cell, int[] numbers, int v) {
        for (int other = 0; other < cell; other++) {
            boolean together = other % width == cell % width || other / width == cell / width;
            if (together && numbers[other] == v) {
                return false;
            }
        }
        return true;
    }

    int number(int x, int y) {
        return !isCell(x, y) ? -1 : rectangle == null ? 0 : rectangle[x + width * y];
    }

    static int magic(int n, int x, int y) {
        if (n < 1 || n > 15 || n % 2 == 0 || x < 0 || x >= n || y < 0 || y >= n) {
            return -1;
        }
        int[][] square = new int[n][n];
        int row = 0;
        int column = n / 2;
        for (int k = 1; k <= n * n; k++) {
            square[row][column] = k;
            int up = (row + n - 1) % n;
            int right = (column + 1) % n;
            if (square[up][right] == 0) {
                row = up;
                column = right;
            } else {
                row = (row + 1) % n;
            }
        }
        return square[y][x];
    }
}
