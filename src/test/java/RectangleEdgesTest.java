/** The boundary cases of promises 10 to 13, each sentence by itself. */
public final class RectangleEdgesTest {
    public static void main(String[] args) {
        promise10EdgesOfV();
        promise10VTooSmall();
        promise10VTooLarge();
        promise10NoSuchCell();
        promise10NotAnyMore();
        promise10NotAnyMoreWhereNoneIs();
        promise10AnotherNumber();
        promise10Against();
        promise10BarredCell();
        promise10RectangleGone();
        promise10RectangleStaysWhenRefused();
        promise10TourStays();
        promise11Smallest();
        promise11Least();
        promise11LesserNumbersLeaveNone();
        promise11AllGiven();
        promise11OneCellLeft();
        promise11NoneInARow();
        promise11NoneInAColumn();
        promise11NoneSeenLate();
        promise11NoneThenOne();
        promise11Again();
        promise11BarredCells();
        promise12WithoutOne();
        promise12NoSuchCell();
        promise12NoSuchCellWithoutOne();
        promise12CountingFindsNone();
        promise12FoundLatest();
        promise13MostTooSmall();
        promise13MostTooLarge();
        promise13EdgesOfMost();
        promise13LesserOfBoth();
        promise13NoMoreThanMost();
        promise13AllGiven();
        promise13None();
        promise13BarredCells();
        promise13LooksOnly();
        Due.end();
    }

    private static void given(TourForms x, int column, int row, int v, boolean due) {
        Due.due(Outside.call("given", column, row, v), x.given(column, row, v), due);
    }

    private static void fills(TourForms x, int most, int due) {
        Due.due(Outside.call("fills", most), x.fills(most), due);
    }

    private static void fill(TourForms x, boolean due) {
        Due.due("fill()", x.fill(), due);
    }

    private static void promise10EdgesOfV() {
        Due.sentence(10, "v .. 0 to N, N the greater one of W and H");
        for (int width = 1; width <= 6; width++) {
            for (int height = 1; height <= 6; height++) {
                int greatest = width > height ? width : height;
                TourForms x = new TourForms(width, height);
                for (int v = 0; v <= greatest; v++) {
                    given(x, width - 1, height - 1, v, true);
                }
                fill(x, true);
                Due.due("N is there", x.number(width - 1, height - 1), greatest);
                given(x, width - 1, height - 1, greatest + 1, false);
            }
        }
    }

    private static void promise10VTooSmall() {
        Due.sentence(10, "false when .. v is not 0 (too small)");
        TourForms x = new TourForms(3, 2);
        for (int v : new int[] {-1, -2, -3, -32, Outside.LEAST, Outside.LEAST + 1, Outside.LEAST + 3}) {
            given(x, 1, 1, v, false);
            fills(x, 1000, 12);
        }
        given(x, 1, 1, 2, true);
        given(x, 1, 1, -1, false);
        fills(x, 1000, 4);
    }

    private static void promise10VTooLarge() {
        Due.sentence(10, "false when .. v is not .. to N (too large)");
        for (int[] sides : new int[][] {{3, 2}, {2, 3}}) {
            TourForms x = new TourForms(sides[0], sides[1]);
            for (int v : new int[] {4, 5, 6, 7, 32, 33, 64, 1 << 30, Outside.MOST - 1, Outside.MOST}) {
                given(x, 1, 1, v, false);
                fills(x, 1000, 12);
            }
            given(x, 1, 1, 3, true);
            given(x, 1, 1, 4, false);
            fills(x, 1000, 4);
        }
        TourForms six = new TourForms(6, 1);
        given(six, 0, 0, 7, false);
        given(six, 0, 0, 6, true);
    }

    private static void promise10NoSuchCell() {
        Due.sentence(10, "false when there is no such cell");
        for (int[] sides : new int[][] {{4, 3}, {1, 1}, {6, 6}, {2, 5}}) {
            TourForms x = new TourForms(sides[0], sides[1]);
            fill(x, true);
            for (int[] cell : Outside.cells(sides[0], sides[1])) {
                given(x, cell[0], cell[1], 0, false);
                given(x, cell[0], cell[1], 1, false);
                given(x, cell[0], cell[1], -1, false);
            }
            for (int cell = 0; cell < sides[0]; cell++) {
                Due.due("the rectangle stays", x.number(cell, 0), cell + 1);
            }
        }
        TourForms small = new TourForms(3, 3);
        for (int[] cell : Outside.cells(3, 3)) {
            given(small, cell[0], cell[1], 2, false);
        }
        fills(small, 1000, 12);
    }

    private static void promise10NotAnyMore() {
        Due.sentence(10, "or (0) not any more: true");
        TourForms x = new TourForms(3, 3);
        given(x, 0, 0, 3, true);
        fills(x, 1000, 4);
        given(x, 0, 0, 0, true);
        fills(x, 1000, 12);
        fill(x, true);
        Due.due("number(0, 0)", x.number(0, 0), 1);
    }

    private static void promise10NotAnyMoreWhereNoneIs() {
        Due.sentence(10, "or (0) not any more: true (where none was given, too)");
        TourForms x = new TourForms(3, 3);
        given(x, 2, 2, 0, true);
        given(x, 2, 2, 0, true);
        fills(x, 1000, 12);
    }

    private static void promise10AnotherNumber() {
        Due.sentence(10, "A number is GIVEN at a cell: true (in place of another, or the same again)");
        TourForms x = new TourForms(2, 2);
        given(x, 0, 0, 1, true);
        given(x, 0, 0, 2, true);
        given(x, 0, 0, 2, true);
        fills(x, 9, 1);
        fill(x, true);
        Due.rectangle("fill()", x, 2, 2, 1, 1, 2);
    }

    private static void promise10Against() {
        Due.sentence(10, "A number is GIVEN at a cell: true (against another one, too)");
        TourForms x = new TourForms(2, 2);
        for (int cell = 0; cell < 4; cell++) {
            given(x, cell % 2, cell / 2, 1, true);
        }
        fill(x, false);
        fills(x, 1000, 0);
        given(x, 1, 0, 0, true);
        given(x, 0, 1, 0, true);
        fill(x, true);
        Due.rectangle("fill()", x, 2, 1, 2, 2, 1);
    }

    private static void promise10BarredCell() {
        Due.sentence(10, "A number is GIVEN at a cell (barred cells have numbers, too)");
        TourForms x = new TourForms(2, 2);
        x.bar(0, 0, true);
        given(x, 0, 0, 2, true);
        fill(x, true);
        Due.rectangle("fill()", x, 2, 2, 1, 1, 2);
    }

    private static void promise10RectangleGone() {
        Due.sentence(10, "(The rectangle found is gone then.)");
        int[][] gives = {{0, 0, 1}, {1, 1, 0}, {0, 0, 2}, {1, 0, 1}};
        for (int[] g : gives) {
            TourForms x = new TourForms(2, 2);
            given(x, 0, 0, 1, true);
            fill(x, true);
            Due.rectangle("fill()", x, 2, 1, 2, 2, 1);
            given(x, g[0], g[1], g[2], true);
            Due.rectangle("gone", x, 2, 0, 0, 0, 0);
        }
    }

    private static void promise10RectangleStaysWhenRefused() {
        Due.sentence(10, "gone then, and not when the call is refused");
        TourForms x = new TourForms(2, 3);
        fill(x, true);
        for (int v : Outside.range(0, 3)) {
            given(x, 0, 0, v, false);
            Due.rectangle("stays", x, 2, 1, 2, 2, 3, 3, 1);
        }
        for (int[] cell : Outside.cells(2, 3)) {
            given(x, cell[0], cell[1], 1, false);
            Due.due("stays", x.number(1, 2), 1);
        }
    }

    private static void promise10TourStays() {
        Due.sentence(10, "The rectangle found is gone, and nothing else");
        TourForms x = new TourForms(2, 2);
        x.bar(0, 1, true);
        x.start(1, 1);
        x.tour(1, false, 9);
        given(x, 0, 0, 1, true);
        Due.tour("the tour", x, 3, 0, 1);
        Due.due("steps()", x.steps(), 2);
        Due.due("the bar", x.bar(0, 1, true), false);
    }

    private static void promise11Smallest() {
        Due.sentence(11, "The least RECTANGLE .. is found: true (one cell, one row, one column)");
        TourForms one = new TourForms(1, 1);
        fill(one, true);
        Due.rectangle("one cell", one, 1, 1);
        TourForms row = new TourForms(6, 1);
        fill(row, true);
        Due.rectangle("one row", row, 6, 1, 2, 3, 4, 5, 6);
        TourForms column = new TourForms(1, 6);
        fill(column, true);
        Due.rectangle("one column", column, 1, 1, 2, 3, 4, 5, 6);
        TourForms two = new TourForms(2, 6);
        fill(two, true);
        Due.rectangle("two columns", two, 2, 1, 2, 2, 1, 3, 4, 4, 3, 5, 6, 6, 5);
    }

    private static void promise11Least() {
        Due.sentence(11, "The least RECTANGLE with what is given");
        TourForms x = new TourForms(4, 4);
        fill(x, true);
        Due.rectangle("nothing given", x, 4, 1, 2, 3, 4, 2, 1, 4, 3, 3, 4, 1, 2, 4, 3, 2, 1);
        given(x, 3, 3, 2, true);
        fill(x, true);
        Due.rectangle("the last given", x, 4, 1, 2, 3, 4, 2, 1, 4, 3, 3, 4, 2, 1, 4, 3, 1, 2);
        given(x, 0, 0, 4, true);
        fill(x, true);
        Due.rectangle("the first, too", x, 4, 4, 1, 2, 3, 1, 2, 3, 4, 2, 3, 4, 1, 3, 4, 1, 2);
    }

    private static void promise11LesserNumbersLeaveNone() {
        Due.sentence(11, "The least RECTANGLE (a number that leaves none is passed over)");
        TourForms x = new TourForms(5, 5);
        given(x, 4, 4, 1, true);
        given(x, 1, 4, 4, true);
        given(x, 2, 2, 1, true);
        fill(x, true);
        Due.rectangle("three given", x, 5,
                1, 2, 3, 4, 5, 2, 1, 4, 5, 3, 3, 5, 1, 2, 4, 4, 3, 5, 1, 2, 5, 4, 2, 3, 1);
        TourForms tall = new TourForms(2, 4);
        given(tall, 0, 3, 1, true);
        given(tall, 1, 3, 2, true);
        fill(tall, true);
        Due.rectangle("the last row given", tall, 2, 2, 1, 3, 4, 4, 3, 1, 2);
        TourForms late = new TourForms(4, 3);
        given(late, 3, 2, 4, true);
        fill(late, true);
        Due.rectangle("the last cell given", late, 4, 1, 2, 4, 3, 2, 4, 3, 1, 3, 1, 2, 4);
        TourForms wide = new TourForms(4, 2);
        given(wide, 1, 0, 2, true);
        given(wide, 2, 0, 4, true);
        given(wide, 3, 1, 3, true);
        fill(wide, true);
        Due.rectangle("1 and 3 are left for row 0", wide, 4, 3, 2, 4, 1, 1, 4, 2, 3);
        TourForms two = new TourForms(3, 3);
        given(two, 1, 1, 1, true);
        fill(two, true);
        Due.rectangle("the middle given", two, 3, 1, 2, 3, 3, 1, 2, 2, 3, 1);
    }

    private static TourForms allGiven(int... numbers) {
        TourForms x = new TourForms(3, 3);
        for (int cell = 0; cell < 9; cell++) {
            x.given(cell % 3, cell / 3, numbers[cell]);
        }
        return x;
    }

    private static void promise11AllGiven() {
        Due.sentence(11, "with what is given .. true (all is given)");
        TourForms x = allGiven(3, 2, 1, 2, 1, 3, 1, 3, 2);
        fill(x, true);
        Due.rectangle("all given", x, 3, 3, 2, 1, 2, 1, 3, 1, 3, 2);
        TourForms wrong = allGiven(3, 2, 1, 2, 1, 3, 1, 3, 3);
        fill(wrong, false);
        Due.rectangle("one is wrong", wrong, 3, 0, 0, 0, 0, 0, 0, 0, 0, 0);
    }

    private static void promise11OneCellLeft() {
        Due.sentence(11, "with what is given .. true (one cell is left)");
        for (int left = 0; left < 9; left++) {
            int[] numbers = {3, 2, 1, 2, 1, 3, 1, 3, 2};
            numbers[left] = 0;
            TourForms x = allGiven(numbers);
            fill(x, true);
            Due.rectangle("left " + left, x, 3, 3, 2, 1, 2, 1, 3, 1, 3, 2);
        }
    }

    private static void promise11NoneInARow() {
        Due.sentence(11, "false when there is none (two alike in a row)");
        for (int column = 1; column < 6; column++) {
            TourForms x = new TourForms(6, 2);
            given(x, 0, 1, 6, true);
            given(x, column, 1, 6, true);
            fill(x, false);
            given(x, column, 1, 5, true);
            fill(x, true);
        }
    }

    private static void promise11NoneInAColumn() {
        Due.sentence(11, "false when there is none (two alike in a column)");
        for (int row = 1; row < 6; row++) {
            TourForms x = new TourForms(2, 6);
            given(x, 1, 0, 6, true);
            given(x, 1, row, 6, true);
            fill(x, false);
            given(x, 1, row, 5, true);
            fill(x, true);
        }
    }

    private static void promise11NoneSeenLate() {
        Due.sentence(11, "false when there is none (no two given are alike in a line)");
        TourForms x = new TourForms(3, 3);
        given(x, 0, 2, 1, true);
        given(x, 1, 2, 2, true);
        given(x, 2, 0, 3, true);
        fill(x, false);
        fills(x, 1000, 0);
        Due.due("number(0, 2)", x.number(0, 2), 0);
        TourForms wide = new TourForms(6, 5);
        for (int row = 0; row < 5; row++) {
            given(wide, row, row, 6, true);
        }
        fill(wide, true);
        given(wide, 0, 0, 0, true);
        given(wide, 5, 0, 1, true);
        given(wide, 0, 1, 1, true);
        fill(wide, true);
        given(wide, 0, 0, 2, true);
        fill(wide, false);
    }

    private static void promise11NoneThenOne() {
        Due.sentence(11, "true; false when there is none (one after the other)");
        TourForms x = new TourForms(2, 1);
        fill(x, true);
        given(x, 0, 0, 2, true);
        given(x, 1, 0, 2, true);
        fill(x, false);
        Due.rectangle("none", x, 2, 0, 0);
        given(x, 1, 0, 0, true);
        Due.rectangle("not found yet", x, 2, 0, 0);
        fill(x, true);
        Due.rectangle("found", x, 2, 2, 1);
    }

    private static void promise11Again() {
        Due.sentence(11, "The least RECTANGLE .. is found: true (each time)");
        TourForms x = new TourForms(3, 2);
        for (int time = 0; time < 4; time++) {
            fill(x, true);
            Due.rectangle("time " + time, x, 3, 1, 2, 3, 2, 3, 1);
        }
        given(x, 0, 0, 1, true);
        given(x, 0, 1, 1, true);
        for (int time = 0; time < 4; time++) {
            fill(x, false);
        }
    }

    private static void promise11BarredCells() {
        Due.sentence(11, "(barred cells have numbers, too)");
        TourForms x = new TourForms(3, 3);
        for (int cell = 0; cell < 9; cell++) {
            x.bar(cell % 3, cell / 3, true);
        }
        fill(x, true);
        Due.rectangle("all barred", x, 3, 1, 2, 3, 2, 3, 1, 3, 1, 2);
        given(x, 0, 0, 1, true);
        given(x, 1, 0, 1, true);
        fill(x, false);
    }

    private static void promise12WithoutOne() {
        Due.sentence(12, "0 without one");
        TourForms x = new TourForms(2, 2);
        Due.rectangle("a new object", x, 2, 0, 0, 0, 0);
        given(x, 0, 0, 2, true);
        Due.rectangle("given only", x, 2, 0, 0, 0, 0);
        fill(x, true);
        given(x, 0, 0, 2, true);
        Due.rectangle("gone", x, 2, 0, 0, 0, 0);
        given(x, 0, 1, 2, true);
        fill(x, false);
        Due.rectangle("none found", x, 2, 0, 0, 0, 0);
    }

    private static void promise12NoSuchCell() {
        Due.sentence(12, "-1 when there is no such cell");
        for (int[] sides : new int[][] {{4, 3}, {1, 1}, {6, 6}, {2, 5}}) {
            TourForms x = new TourForms(sides[0], sides[1]);
            fill(x, true);
            for (int[] cell : Outside.cells(sides[0], sides[1])) {
                Due.due(Outside.call("number", cell), x.number(cell[0], cell[1]), -1);
            }
            Due.due("the last cell", x.number(sides[0] - 1, sides[1] - 1) >= 1, true);
        }
    }

    private static void promise12NoSuchCellWithoutOne() {
        Due.sentence(12, "-1 when there is no such cell (without a rectangle, too)");
        TourForms x = new TourForms(4, 3);
        for (int[] cell : Outside.cells(4, 3)) {
            Due.due(Outside.call("number", cell), x.number(cell[0], cell[1]), -1);
        }
    }

    private static void promise12CountingFindsNone() {
        Due.sentence(12, "of the rectangle found latest (counting finds none)");
        TourForms x = new TourForms(2, 2);
        fills(x, 1000, 2);
        fills(x, 1, 1);
        Due.rectangle("counted", x, 2, 0, 0, 0, 0);
    }

    private static void promise12FoundLatest() {
        Due.sentence(12, "of the rectangle found latest");
        TourForms x = new TourForms(2, 2);
        fill(x, true);
        given(x, 0, 0, 2, true);
        fill(x, true);
        Due.rectangle("the later one", x, 2, 2, 1, 1, 2);
        x.bar(0, 0, true);
        x.start(1, 1);
        x.tour(1, false, 9);
        x.queens();
        x.fills(9);
        x.fills(-1);
        x.magic(3, 0, 0);
        Due.rectangle("other calls let it be", x, 2, 2, 1, 1, 2);
    }

    private static void promise13MostTooSmall() {
        Due.sentence(13, "-1 when most is not 0 (too small)");
        TourForms x = new TourForms(2, 2);
        TourForms none = allGiven(1, 1, 0, 0, 0, 0, 0, 0, 0);
        for (int most : new int[] {-1, -2, -1000, Outside.LEAST, Outside.LEAST + 1}) {
            fills(x, most, -1);
            fills(none, most, -1);
        }
    }

    private static void promise13MostTooLarge() {
        Due.sentence(13, "-1 when most is not .. to 1,000 (too large)");
        TourForms x = new TourForms(2, 2);
        TourForms none = allGiven(1, 1, 0, 0, 0, 0, 0, 0, 0);
        for (int most : new int[] {1001, 1002, 65536, 1 << 30, Outside.MOST - 1, Outside.MOST}) {
            fills(x, most, -1);
            fills(none, most, -1);
        }
    }

    private static void promise13EdgesOfMost() {
        Due.sentence(13, "most .. 0 to 1,000: both ends are in it");
        TourForms x = new TourForms(5, 5);
        fills(x, 0, 0);
        fills(x, 1, 1);
        fills(x, 999, 999);
        fills(x, 1000, 1000);
        fills(new TourForms(1, 1), 0, 0);
        fills(new TourForms(1, 1), 1000, 1);
    }

    private static void promise13LesserOfBoth() {
        Due.sentence(13, "the lesser one of both");
        TourForms x = new TourForms(3, 3);
        for (int most = 0; most <= 14; most++) {
            fills(x, most, most < 12 ? most : 12);
        }
        TourForms row = new TourForms(1, 6);
        fills(row, 719, 719);
        fills(row, 720, 720);
        fills(row, 721, 720);
        fills(row, 1000, 720);
    }

    private static void promise13NoMoreThanMost() {
        Due.sentence(13, "no more than most are counted");
        TourForms x = new TourForms(6, 6);
        for (int most : new int[] {0, 1, 2, 500, 999, 1000}) {
            fills(x, most, most);
        }
        TourForms wide = new TourForms(6, 2);
        fills(wide, 1000, 1000);
        TourForms tall = new TourForms(2, 6);
        fills(tall, 1000, 1000);
    }

    private static void promise13AllGiven() {
        Due.sentence(13, "with what is given (all is given)");
        TourForms x = allGiven(3, 2, 1, 2, 1, 3, 1, 3, 2);
        fills(x, 0, 0);
        fills(x, 1, 1);
        fills(x, 1000, 1);
        TourForms wrong = allGiven(3, 2, 1, 2, 1, 3, 1, 3, 3);
        fills(wrong, 1000, 0);
        given(x, 2, 2, 0, true);
        fills(x, 1000, 1);
        given(x, 1, 1, 0, true);
        fills(x, 1000, 1);
    }

    private static void promise13None() {
        Due.sentence(13, "How many RECTANGLES there are with what is given (none)");
        TourForms x = new TourForms(6, 6);
        given(x, 0, 0, 1, true);
        given(x, 5, 0, 1, true);
        for (int most : new int[] {0, 1, 1000}) {
            fills(x, most, 0);
        }
        given(x, 5, 0, 0, true);
        given(x, 0, 5, 1, true);
        for (int most : new int[] {0, 1, 1000}) {
            fills(x, most, 0);
        }
        given(x, 0, 5, 2, true);
        fills(x, 1000, 1000);
    }

    private static void promise13BarredCells() {
        Due.sentence(13, "(barred cells have numbers, too)");
        TourForms x = new TourForms(2, 3);
        fills(x, 1000, 12);
        for (int cell = 0; cell < 6; cell++) {
            x.bar(cell % 2, cell / 2, true);
            fills(x, 1000, 12);
        }
    }

    private static void promise13LooksOnly() {
        Due.sentence(13, "are counted (and nothing else is done)");
        TourForms x = new TourForms(3, 3);
        given(x, 0, 0, 2, true);
        fill(x, true);
        fills(x, 1000, 4);
        fills(x, 3, 3);
        fills(x, 0, 0);
        fills(x, -1, -1);
        fills(x, 1001, -1);
        Due.rectangle("the rectangle stays", x, 3, 2, 1, 3, 1, 3, 2, 3, 2, 1);
        fill(x, true);
        Due.rectangle("and is the same", x, 3, 2, 1, 3, 1, 3, 2, 3, 2, 1);
        fills(x, 1000, 4);
    }
}
