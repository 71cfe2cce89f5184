/** The boundary cases of promises 8 and 9, each sentence by itself. */
public final class QueensEdgesTest {
    public static void main(String[] args) {
        promise8OneInEachColumn();
        promise8SmallestBoards();
        promise8NoTwoInARow();
        promise8NoTwoOnALine();
        promise8NoneOnABarredCell();
        promise8BarredDoNotPart();
        promise8AllBarred();
        promise8OnlyBarsMatter();
        promise9FirstAndLastWay();
        promise9NoSuchWay();
        promise9NoSuchColumn();
        promise9NoWaysAtAll();
        promise9ByTheirOrder();
        promise9RowsOfATallBoard();
        promise9Bars();
        promise9LooksOnly();
        Due.end();
    }

    private static void ways(TourForms x, int... rowsOfAllWays) {
        int count = rowsOfAllWays.length;
        Due.due("queens()", x.queens(), count);
        for (int k = 0; k < count; k++) {
            int rest = rowsOfAllWays[k];
            int width = String.valueOf(rest).length() - 1;
            for (int column = width - 1; column >= 0; column--) {
                Due.due(Outside.call("queen", k, column), x.queen(k, column), rest % 10);
                rest /= 10;
            }
        }
        Due.due(Outside.call("queen", count, 0), x.queen(count, 0), -1);
    }

    private static void promise8OneInEachColumn() {
        Due.sentence(8, "QUEENS stand one in each column");
        for (int height = 1; height <= 6; height++) {
            Due.due("1 by " + height, new TourForms(1, height).queens(), height);
        }
        for (int width = 2; width <= 6; width++) {
            for (int height = 1; height < width; height++) {
                Due.due(width + " by " + height + ", fewer rows", new TourForms(width, height).queens(), 0);
            }
        }
    }

    private static void promise8SmallestBoards() {
        Due.sentence(8, "How many WAYS there are (one, or none)");
        ways(new TourForms(1, 1), 90);
        ways(new TourForms(2, 2));
        ways(new TourForms(3, 3));
        ways(new TourForms(2, 3), 902, 920);
        ways(new TourForms(4, 4), 91302, 92031);
    }

    private static void promise8NoTwoInARow() {
        Due.sentence(8, "no two in a row");
        TourForms x = new TourForms(3, 6);
        for (int cell = 0; cell < 18; cell++) {
            int row = cell / 3;
            x.bar(cell % 3, row, row != 0 && row != 3);
        }
        Due.due("two rows for three", x.queens(), 0);
        TourForms far = new TourForms(4, 2);
        for (int column = 0; column < 4; column++) {
            far.bar(column, 1, true);
        }
        Due.due("one row", far.queens(), 0);
    }

    private static void promise8NoTwoOnALine() {
        Due.sentence(8, "or on a line at half a right angle");
        TourForms x = new TourForms(2, 6);
        Due.due("side by side", x.queens(), 20);
        TourForms ends = new TourForms(6, 6);
        for (int row = 0; row < 6; row++) {
            ends.bar(0, row, row != 0);
            ends.bar(5, row, row != 5);
        }
        Due.due("from corner to corner", ends.queens(), 0);
        TourForms others = new TourForms(6, 6);
        for (int row = 0; row < 6; row++) {
            others.bar(0, row, row != 5);
            others.bar(5, row, row != 0);
        }
        Due.due("from corner to corner", others.queens(), 0);
    }

    private static void promise8NoneOnABarredCell() {
        Due.sentence(8, "none on a barred cell");
        TourForms x = new TourForms(4, 4);
        x.bar(0, 1, true);
        ways(x, 92031);
        x.bar(3, 1, true);
        ways(x);
        x.bar(0, 1, false);
        ways(x, 91302);
        x.bar(0, 0, true);
        ways(x, 91302);
    }

    private static void promise8BarredDoNotPart() {
        Due.sentence(8, "(barred cells do not part them)");
        TourForms x = new TourForms(3, 3);
        x.bar(1, 1, true);
        Due.due("the middle barred", x.queens(), 0);
        x.bar(1, 0, true);
        x.bar(1, 2, true);
        Due.due("the column barred", x.queens(), 0);
        TourForms wide = new TourForms(5, 5);
        int free = wide.queens();
        wide.bar(1, 1, true);
        Due.due("never more than without", wide.queens() <= free, true);
        Due.due("without", free, 10);
        Due.due("those with a queen there are gone", wide.queens(), 8);
    }

    private static void promise8AllBarred() {
        Due.sentence(8, "none on a barred cell (a whole column, or all)");
        for (int column = 0; column < 5; column++) {
            TourForms x = new TourForms(5, 6);
            for (int row = 0; row < 6; row++) {
                x.bar(column, row, true);
            }
            Due.due("column " + column + " barred", x.queens(), 0);
            Due.due("queen(0, 0)", x.queen(0, 0), -1);
        }
        TourForms x = new TourForms(1, 2);
        x.bar(0, 0, true);
        ways(x, 91);
        x.bar(0, 1, true);
        ways(x);
        x.bar(0, 0, false);
        ways(x, 90);
    }

    private static void promise8OnlyBarsMatter() {
        Due.sentence(8, "How many WAYS there are (whatever is found or given)");
        TourForms x = new TourForms(4, 4);
        x.start(2, 2);
        x.tour(1, false, 100);
        x.given(0, 0, 4);
        x.fill();
        ways(x, 91302, 92031);
        ways(x, 91302, 92031);
        Due.due("the start", x.at(0), 10);
        Due.due("the rectangle", x.number(0, 0), 4);
    }

    private static void promise9FirstAndLastWay() {
        Due.sentence(9, "in way k (from 0 on)");
        TourForms x = new TourForms(5, 5);
        int[] first = {0, 2, 4, 1, 3};
        int[] last = {4, 2, 0, 3, 1};
        for (int column = 0; column < 5; column++) {
            Due.due(Outside.call("queen", 0, column), x.queen(0, column), first[column]);
            Due.due(Outside.call("queen", 9, column), x.queen(9, column), last[column]);
        }
    }

    private static void promise9NoSuchWay() {
        Due.sentence(9, "-1 when there is none such (no such way)");
        TourForms x = new TourForms(5, 5);
        for (int k : Outside.range(0, 9)) {
            for (int column = 0; column < 5; column++) {
                Due.due(Outside.call("queen", k, column), x.queen(k, column), -1);
            }
        }
        TourForms one = new TourForms(1, 1);
        for (int k : Outside.range(0, 0)) {
            Due.due(Outside.call("queen", k, 0), one.queen(k, 0), -1);
        }
    }

    private static void promise9NoSuchColumn() {
        Due.sentence(9, "-1 when there is none such (no such column)");
        TourForms x = new TourForms(4, 6);
        for (int column : Outside.range(0, 3)) {
            for (int k : new int[] {0, 1, -1, 1000}) {
                Due.due(Outside.call("queen", k, column), x.queen(k, column), -1);
            }
        }
        TourForms one = new TourForms(1, 6);
        for (int column : Outside.range(0, 0)) {
            Due.due(Outside.call("queen", 0, column), one.queen(0, column), -1);
        }
        TourForms six = new TourForms(6, 6);
        for (int column : Outside.range(0, 5)) {
            Due.due(Outside.call("queen", 3, column), six.queen(3, column), -1);
        }
    }

    private static void promise9NoWaysAtAll() {
        Due.sentence(9, "-1 when there is none such (no way at all)");
        for (int[] sides : new int[][] {{2, 2}, {3, 3}, {6, 5}, {2, 1}}) {
            TourForms x = new TourForms(sides[0], sides[1]);
            for (int k = -1; k <= 1; k++) {
                for (int column = -1; column <= sides[0]; column++) {
                    Due.due(Outside.call("queen", k, column), x.queen(k, column), -1);
                }
            }
        }
    }

    private static void promise9ByTheirOrder() {
        Due.sentence(9, "by their order");
        ways(new TourForms(6, 6), 9135024, 9251403, 9304152, 9420531);
        ways(new TourForms(5, 5), 902413, 903142, 913024, 914203, 920314, 924130, 930241, 931420, 941302, 942031);
        ways(new TourForms(2, 4), 902, 903, 913, 920, 930, 931);
    }

    private static void promise9RowsOfATallBoard() {
        Due.sentence(9, "The row of the queen (more rows than columns)");
        ways(new TourForms(1, 6), 90, 91, 92, 93, 94, 95);
        TourForms x = new TourForms(2, 6);
        Due.due("queen(19, 0)", x.queen(19, 0), 5);
        Due.due("queen(19, 1)", x.queen(19, 1), 3);
        Due.due("queen(20, 0)", x.queen(20, 0), -1);
    }

    private static void promise9Bars() {
        Due.sentence(9, "in way k .. by their order (the ways change with the bars)");
        TourForms x = new TourForms(6, 6);
        x.bar(0, 1, true);
        ways(x, 9251403, 9304152, 9420531);
        x.bar(5, 2, true);
        ways(x, 9251403, 9420531);
        x.bar(0, 1, false);
        ways(x, 9135024, 9251403, 9420531);
    }

    private static void promise9LooksOnly() {
        Due.sentence(9, "The row of the queen (the call changes nothing)");
        TourForms x = new TourForms(4, 4);
        x.tour(1, false, 100);
        x.fill();
        int made = x.steps();
        Due.due("queen(1, 3)", x.queen(1, 3), 1);
        Due.due("queen(0, 3)", x.queen(0, 3), 2);
        Due.due("queen(1, 3)", x.queen(1, 3), 1);
        Due.due("queen(2, 3)", x.queen(2, 3), -1);
        Due.due("queen(1, 4)", x.queen(1, 4), -1);
        Due.due("queens()", x.queens(), 2);
        Due.due("at(0)", x.at(0), 0);
        Due.due("steps()", x.steps(), made);
        Due.due("number(3, 0)", x.number(3, 0), 4);
    }
}
