import java.util.ArrayList;
import java.util.List;

/** What lies outside a board or a range: just outside, far outside, and where an int wraps round. */
final class Outside {
    static final int LEAST = Integer.MIN_VALUE;
    static final int MOST = Integer.MAX_VALUE;

    private Outside() {
    }

    /** Numbers that are not first to last. */
    static int[] range(int first, int last) {
        return new int[] {first - 1, last + 1, first - 2, last + 2, first - 1000000, last + 1000000,
            LEAST, LEAST + 1, MOST - 1, MOST};
    }

    /** Cells (x, y) that a board does not have; many would be the number of a cell by x + W y. */
    static int[][] cells(int width, int height) {
        List<int[]> all = new ArrayList<>();
        for (int y = 0; y < height; y++) {
            for (int x : range(0, width - 1)) {
                all.add(new int[] {x, y});
            }
        }
        for (int x = 0; x < width; x++) {
            for (int y : range(0, height - 1)) {
                all.add(new int[] {x, y});
            }
        }
        for (int x : range(0, width - 1)) {
            for (int y : range(0, height - 1)) {
                all.add(new int[] {x, y});
            }
        }
        // W y is 0, W or 2^31 here when it wraps round.
        for (int y : new int[] {1 << 30, (1 << 30) + 1, -(1 << 30), 1 << 29, LEAST + 1}) {
            all.add(new int[] {0, y});
            all.add(new int[] {LEAST, y});
        }
        all.add(new int[] {width * height - 1, 0});
        all.add(new int[] {width, -1});
        all.add(new int[] {-width, 1});
        List<int[]> outside = new ArrayList<>();
        for (int[] cell : all) {
            boolean inside = cell[0] >= 0 && cell[0] < width && cell[1] >= 0 && cell[1] < height;
            if (!inside) {
                outside.add(cell);
            }
        }
        return outside.toArray(new int[0][]);
    }

    static String call(String method, int... arguments) {
        StringBuilder text = new StringBuilder(method).append('(');
        for (int i = 0; i < arguments.length; i++) {
            text.append(i == 0 ? "" : ", ").append(arguments[i]);
        }
        return text.append(')').toString();
    }
}
