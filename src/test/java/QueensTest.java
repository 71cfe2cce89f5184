/** Promises 8 and 9: queens, queen. */
public final class QueensTest {
    public static void main(String[] args) {
        everyBoard();
        knownCounts();
        bars();
        noSuchWayOrColumn();
        Due.end();
    }

    private static void compare(String name, TourForms x, PlainForms plain) {
        int count = plain.queens();
        Due.due(name + "queens()", x.queens(), count);
        for (int k = -1; k <= count; k++) {
            for (int column = -1; column <= plain.width; column++) {
                Due.due(name + "queen(" + k + ", " + column + ")", x.queen(k, column), plain.queen(k, column));
            }
        }
    }

    private static void everyBoard() {
        for (int width = 1; width <= 6; width++) {
            for (int height = 1; height <= 6; height++) {
                if (width < 6 || height < 6) {
                    compare(width + " by " + height + ": ", new TourForms(width, height), new PlainForms(width, height));
                }
            }
        }
    }

    private static void knownCounts() {
        int[] square = {1, 0, 0, 2, 10, 4};
        for (int side = 1; side <= 6; side++) {
            Due.due("queens() on " + side, new TourForms(side, side).queens(), square[side - 1]);
        }
        Due.due("one column", new TourForms(1, 6).queens(), 6);
        Due.due("one row", new TourForms(6, 1).queens(), 0);
        Due.due("two columns", new TourForms(2, 6).queens(), 20);
        TourForms x = new TourForms(6, 6);
        int[][] ways = {{1, 3, 5, 0, 2, 4}, {2, 5, 1, 4, 0, 3}, {3, 0, 4, 1, 5, 2}, {4, 2, 0, 5, 3, 1}};
        for (int k = 0; k < 4; k++) {
            for (int column = 0; column < 6; column++) {
                Due.due("queen(" + k + ", " + column + ")", x.queen(k, column), ways[k][column]);
            }
        }
    }

    private static void bars() {
        TourForms x = new TourForms(4, 5);
        PlainForms plain = new PlainForms(4, 5);
        for (int cell = 0; cell < 20; cell += 3) {
            x.bar(cell % 4, cell / 4, true);
            plain.bar(cell % 4, cell / 4, true);
            compare("barred to " + cell + ": ", x, plain);
        }
        TourForms wide = new TourForms(6, 6);
        PlainForms plainWide = new PlainForms(6, 6);
        wide.bar(2, 5, true);
        plainWide.bar(2, 5, true);
        compare("six by six, one barred: ", wide, plainWide);
        TourForms between = new TourForms(3, 3);
        between.bar(1, 1, true);
        Due.due("a bar does not part queens", between.queens(), 0);
        TourForms shut = new TourForms(1, 2);
        shut.bar(0, 0, true);
        Due.due("one row left", shut.queen(0, 0), 1);
        shut.bar(0, 1, true);
        Due.due("all barred", shut.queens(), 0);
        Due.due("all barred", shut.queen(0, 0), -1);
    }

    private static void noSuchWayOrColumn() {
        TourForms x = new TourForms(5, 5);
        int[] wrong = {-1, Integer.MIN_VALUE, Integer.MAX_VALUE, 10};
        for (int k : wrong) {
            Due.due("queen(" + k + ", 0)", x.queen(k, 0), -1);
            Due.due("queen(0, " + k + ")", x.queen(0, k), -1);
        }
        Due.due("queen(9, 4)", x.queen(9, 4), 1);
        Due.due("queen(0, 5)", x.queen(0, 5), -1);
    }
}
