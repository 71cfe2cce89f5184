/** The boundary cases of promises 1 to 3, each sentence by itself. */
public final class BoardEdgesTest {
    public static void main(String[] args) {
        promise1Below();
        promise1Above();
        promise1Held();
        promise1GreatestBoard();
        promise1NothingBarred();
        promise1NothingGiven();
        promise1NothingFound();
        promise1StartAtFirst();
        promise1ObjectsOfTheirOwn();
        promise2Barred();
        promise2NotBarred();
        promise2NoSuchCell();
        promise2SoAlready();
        promise2AllBarred();
        promise2TourGone();
        promise2TourStaysWhenRefused();
        promise2AllElseStays();
        promise3EachCell();
        promise3BarredCell();
        promise3NoSuchCell();
        promise3TourGone();
        promise3TourStaysWhenRefused();
        promise3AllElseStays();
        Due.end();
    }

    /** The board is width by height: each call that takes a cell, a column or a number tells so. */
    private static void sides(String name, TourForms x, int width, int height) {
        Due.due(name + " last column", x.number(width - 1, 0), 0);
        Due.due(name + " behind the last column", x.number(width, 0), -1);
        Due.due(name + " last row", x.number(0, height - 1), 0);
        Due.due(name + " behind the last row", x.number(0, height), -1);
        Due.due(name + " last cell", x.ways(2, width * height - 1) >= 0, true);
        Due.due(name + " behind the last cell", x.ways(2, width * height), -1);
        int greatest = width > height ? width : height;
        Due.due(name + " N", x.given(0, 0, greatest), true);
        Due.due(name + " above N", x.given(0, 0, greatest + 1), false);
        Due.due(name + " last cell as start", x.start(width - 1, height - 1), true);
        Due.due(name + " start behind the last column", x.start(width, 0), false);
        Due.due(name + " start behind the last row", x.start(0, height), false);
        Due.due(name + " bar behind the last column", x.bar(width, 0, true), false);
        Due.due(name + " bar behind the last row", x.bar(0, height, true), false);
        Due.due(name + " bar of the last cell", x.bar(width - 1, height - 1, true), true);
    }

    private static void promise1Below() {
        Due.sentence(1, "what is below counts as 1");
        for (int below : new int[] {0, -1, -2, -6, -7, -1000, Outside.LEAST, Outside.LEAST + 1}) {
            sides(Outside.call("TourForms", below, 4), new TourForms(below, 4), 1, 4);
            sides(Outside.call("TourForms", 3, below), new TourForms(3, below), 3, 1);
            sides(Outside.call("TourForms", below, below), new TourForms(below, below), 1, 1);
        }
    }

    private static void promise1Above() {
        Due.sentence(1, "what is above as 6");
        for (int above : new int[] {7, 8, 12, 36, 1000, 65536, Outside.MOST - 1, Outside.MOST}) {
            sides(Outside.call("TourForms", above, 4), new TourForms(above, 4), 6, 4);
            sides(Outside.call("TourForms", 3, above), new TourForms(3, above), 3, 6);
            sides(Outside.call("TourForms", above, above), new TourForms(above, above), 6, 6);
            sides(Outside.call("TourForms", above, -above), new TourForms(above, -above), 6, 1);
            sides(Outside.call("TourForms", -above, above), new TourForms(-above, above), 1, 6);
        }
    }

    private static void promise1Held() {
        Due.sentence(1, "width and height are held to 1 to 6");
        for (int width = 1; width <= 6; width++) {
            for (int height = 1; height <= 6; height++) {
                sides(Outside.call("TourForms", width, height), new TourForms(width, height), width, height);
            }
        }
    }

    private static void promise1GreatestBoard() {
        Due.sentence(1, "held to 1 to 6: all calls on the greatest board");
        TourForms x = new TourForms(6, 6);
        Due.due("tour(1, false, 100000)", x.tour(1, false, 100000), 0);
        Due.due("at(35)", x.at(35) >= 0, true);
        Due.due("at(36)", x.at(36), -1);
        Due.due("queens()", x.queens(), 4);
        Due.due("fill()", x.fill(), true);
        Due.due("number(5, 5)", x.number(5, 5) >= 1, true);
        Due.due("fills(1000)", x.fills(1000), 1000);
    }

    private static void promise1NothingBarred() {
        Due.sentence(1, "Nothing barred");
        TourForms x = new TourForms(6, 5);
        for (int cell = 0; cell < 30; cell++) {
            Due.due("bar off at " + cell, x.bar(cell % 6, cell / 6, false), false);
        }
        Due.due("ways(1, 7)", x.ways(1, 7), 8);
        for (int cell = 0; cell < 30; cell++) {
            Due.due("bar on at " + cell, x.bar(cell % 6, cell / 6, true), true);
        }
    }

    private static void promise1NothingGiven() {
        Due.sentence(1, "nothing given");
        Due.due("fills(1000) on 3 by 3", new TourForms(3, 3).fills(1000), 12);
        TourForms x = new TourForms(3, 3);
        Due.due("fill()", x.fill(), true);
        Due.rectangle("fill()", x, 3, 1, 2, 3, 2, 3, 1, 3, 1, 2);
    }

    private static void promise1NothingFound() {
        Due.sentence(1, "nothing found");
        TourForms x = new TourForms(2, 3);
        for (int k = -1; k <= 6; k++) {
            Due.due("at(" + k + ")", x.at(k), -1);
        }
        Due.rectangle("new", x, 2, 0, 0, 0, 0, 0, 0);
        Due.due("steps()", x.steps(), 0);
    }

    private static void promise1StartAtFirst() {
        Due.sentence(1, "THE START (cell 0 at first)");
        TourForms x = new TourForms(3, 1);
        Due.due("tour(2, false, 2)", x.tour(2, false, 2), 0);
        Due.tour("tour(2, false, 2)", x, 0, 1, 2);
    }

    private static void promise1ObjectsOfTheirOwn() {
        Due.sentence(1, "A new object: nothing of an older one is in it");
        TourForms old = new TourForms(2, 2);
        old.bar(1, 1, true);
        old.start(1, 0);
        old.tour(1, false, 9);
        old.given(0, 0, 2);
        old.fill();
        TourForms x = new TourForms(2, 2);
        Due.due("at(0)", x.at(0), -1);
        Due.due("steps()", x.steps(), 0);
        Due.due("number(0, 0)", x.number(0, 0), 0);
        Due.due("fills(9)", x.fills(9), 2);
        Due.due("bar(1, 1, false)", x.bar(1, 1, false), false);
        Due.due("tour(2, true, 9)", x.tour(2, true, 9), 0);
        Due.due("at(0)", x.at(0), 0);
        Due.due("given(0, 0, 1)", x.given(0, 0, 1), true);
        Due.tour("the older object's tour", old, 1, 0, 2);
        Due.rectangle("the older object's rectangle", old, 2, 2, 1, 1, 2);
        Due.due("the older object's tour(1, false, 9)", old.tour(1, false, 9), 0);
        Due.due("the older object's start", old.at(0), 1);
    }

    private static void promise2Barred() {
        Due.sentence(2, "A cell is barred: true");
        for (int cell = 0; cell < 15; cell++) {
            TourForms x = new TourForms(5, 3);
            Due.due("bar of cell " + cell, x.bar(cell % 5, cell / 5, true), true);
            for (int other = 0; other < 15; other++) {
                Due.due("barred " + cell + ", so is " + other, x.bar(other % 5, other / 5, true), other != cell);
            }
        }
    }

    private static void promise2NotBarred() {
        Due.sentence(2, "or not: true");
        TourForms x = new TourForms(2, 1);
        Due.due("bar(1, 0, true)", x.bar(1, 0, true), true);
        Due.due("ways(2, 0)", x.ways(2, 0), 0);
        Due.due("bar(1, 0, false)", x.bar(1, 0, false), true);
        Due.due("ways(2, 0)", x.ways(2, 0), 1);
        Due.due("bar(1, 0, true)", x.bar(1, 0, true), true);
        Due.due("ways(2, 0)", x.ways(2, 0), 0);
    }

    private static void promise2NoSuchCell() {
        Due.sentence(2, "false when there is no such cell");
        for (int[] sides : new int[][] {{4, 3}, {1, 1}, {6, 6}, {2, 5}}) {
            TourForms free = new TourForms(sides[0], sides[1]);
            TourForms shut = new TourForms(sides[0], sides[1]);
            barAll(shut, sides[0], sides[1]);
            for (int[] cell : Outside.cells(sides[0], sides[1])) {
                Due.due(Outside.call("bar on", cell), free.bar(cell[0], cell[1], true), false);
                Due.due(Outside.call("bar off", cell), free.bar(cell[0], cell[1], false), false);
                Due.due(Outside.call("bar on", cell), shut.bar(cell[0], cell[1], true), false);
                Due.due(Outside.call("bar off", cell), shut.bar(cell[0], cell[1], false), false);
            }
            for (int cell = 0; cell < sides[0] * sides[1]; cell++) {
                int column = cell % sides[0];
                int row = cell / sides[0];
                Due.due("none was barred, cell " + cell, free.bar(column, row, false), false);
                Due.due("none was freed, cell " + cell, shut.bar(column, row, true), false);
            }
        }
    }

    private static void barAll(TourForms x, int width, int height) {
        for (int cell = 0; cell < width * height; cell++) {
            x.bar(cell % width, cell / width, true);
        }
    }

    private static void promise2SoAlready() {
        Due.sentence(2, "false when it is so already");
        TourForms x = new TourForms(3, 3);
        Due.due("free already", x.bar(1, 2, false), false);
        Due.due("bar(1, 2, true)", x.bar(1, 2, true), true);
        Due.due("barred already", x.bar(1, 2, true), false);
        Due.due("and is so still", x.ways(2, 4), 3);
        Due.due("bar(1, 2, false)", x.bar(1, 2, false), true);
        Due.due("free already", x.bar(1, 2, false), false);
        Due.due("and is so still", x.ways(2, 4), 4);
    }

    private static void promise2AllBarred() {
        Due.sentence(2, "A cell is barred: the last one that is free, too");
        TourForms x = new TourForms(2, 2);
        barAll(x, 2, 2);
        for (int cell = 0; cell < 4; cell++) {
            Due.due("barred already", x.bar(cell % 2, cell / 2, true), false);
            Due.due("ways(1, " + cell + ")", x.ways(1, cell), 0);
        }
        Due.due("tour(1, false, 9)", x.tour(1, false, 9), 1);
        Due.due("queens()", x.queens(), 0);
        for (int cell = 0; cell < 4; cell++) {
            Due.due("free again", x.bar(cell % 2, cell / 2, false), true);
        }
        Due.due("tour(1, false, 9)", x.tour(1, false, 9), 0);
    }

    private static TourForms withTour() {
        TourForms x = new TourForms(3, 2);
        x.bar(2, 1, true);
        x.tour(1, false, 50);
        return x;
    }

    private static void promise2TourGone() {
        Due.sentence(2, "(The tour found is gone then.)");
        TourForms x = withTour();
        Due.due("tour is there", x.at(0), 0);
        Due.due("bar(2, 0, true)", x.bar(2, 0, true), true);
        for (int k = 0; k < 6; k++) {
            Due.due("at(" + k + ")", x.at(k), -1);
        }
        Due.due("back again", x.bar(2, 0, false), true);
        Due.due("but not the tour", x.at(0), -1);
        TourForms y = withTour();
        Due.due("bar(2, 1, false)", y.bar(2, 1, false), true);
        for (int k = 0; k < 6; k++) {
            Due.due("at(" + k + ")", y.at(k), -1);
        }
    }

    private static void promise2TourStaysWhenRefused() {
        Due.sentence(2, "gone then, and not when the call is refused");
        TourForms x = withTour();
        for (int[] cell : Outside.cells(3, 2)) {
            Due.due(Outside.call("bar on", cell), x.bar(cell[0], cell[1], true), false);
            Due.due("the tour stays", x.at(0), 0);
            Due.due(Outside.call("bar off", cell), x.bar(cell[0], cell[1], false), false);
            Due.due("the tour stays", x.at(0), 0);
        }
        Due.due("bar(2, 1, true)", x.bar(2, 1, true), false);
        Due.due("the tour stays", x.at(0), 0);
        Due.due("bar(0, 0, false)", x.bar(0, 0, false), false);
        Due.due("the tour stays", x.at(4) >= 0, true);
    }

    private static void promise2AllElseStays() {
        Due.sentence(2, "The tour found is gone, and nothing else");
        TourForms x = new TourForms(3, 1);
        x.start(2, 0);
        x.given(1, 0, 1);
        Due.due("fill()", x.fill(), true);
        Due.due("tour(2, false, 9)", x.tour(2, false, 9), 0);
        Due.due("bar(0, 0, true)", x.bar(0, 0, true), true);
        Due.rectangle("the rectangle", x, 3, 2, 1, 3);
        Due.due("the given number", x.fills(9), 2);
        Due.due("steps()", x.steps(), 2);
        Due.due("tour(2, false, 9)", x.tour(2, false, 9), 0);
        Due.tour("the start", x, 2, 1);
    }

    private static void promise3EachCell() {
        Due.sentence(3, "THE START: true");
        TourForms x = new TourForms(4, 3);
        for (int cell = 11; cell >= 0; cell--) {
            Due.due("start at cell " + cell, x.start(cell % 4, cell / 4), true);
            Due.due("the same once more", x.start(cell % 4, cell / 4), true);
            Due.due("tour(1, false, 1000)", x.tour(1, false, 1000), 0);
            Due.due("at(0)", x.at(0), cell);
        }
    }

    private static void promise3BarredCell() {
        Due.sentence(3, "THE START: true (a barred cell is a cell)");
        TourForms x = new TourForms(2, 2);
        x.bar(1, 1, true);
        Due.due("start(1, 1)", x.start(1, 1), true);
        Due.due("tour(1, false, 9)", x.tour(1, false, 9), 1);
        x.bar(1, 1, false);
        Due.due("tour(1, false, 9)", x.tour(1, false, 9), 0);
        Due.tour("tour(1, false, 9)", x, 3, 0, 1, 2);
    }

    private static void promise3NoSuchCell() {
        Due.sentence(3, "false when there is no such cell");
        for (int[] sides : new int[][] {{4, 3}, {1, 1}, {6, 6}, {2, 5}}) {
            TourForms x = new TourForms(sides[0], sides[1]);
            int last = sides[0] * sides[1] - 1;
            Due.due("start at the last cell", x.start(sides[0] - 1, sides[1] - 1), true);
            for (int[] cell : Outside.cells(sides[0], sides[1])) {
                Due.due(Outside.call("start", cell), x.start(cell[0], cell[1]), false);
            }
            Due.due("tour(1, false, 1000)", x.tour(1, false, 1000), 0);
            Due.due("the start stays", x.at(0), last);
        }
    }

    private static void promise3TourGone() {
        Due.sentence(3, "(The tour found is gone then.)");
        TourForms x = withTour();
        Due.due("start(1, 0)", x.start(1, 0), true);
        for (int k = 0; k < 6; k++) {
            Due.due("at(" + k + ")", x.at(k), -1);
        }
        TourForms same = withTour();
        Due.due("the same start", same.start(0, 0), true);
        Due.due("at(0)", same.at(0), -1);
        TourForms barred = withTour();
        Due.due("a barred start", barred.start(2, 1), true);
        Due.due("at(0)", barred.at(0), -1);
    }

    private static void promise3TourStaysWhenRefused() {
        Due.sentence(3, "gone then, and not when the call is refused");
        TourForms x = withTour();
        for (int[] cell : Outside.cells(3, 2)) {
            Due.due(Outside.call("start", cell), x.start(cell[0], cell[1]), false);
            Due.due("the tour stays", x.at(0), 0);
        }
    }

    private static void promise3AllElseStays() {
        Due.sentence(3, "The tour found is gone, and nothing else");
        TourForms x = new TourForms(2, 2);
        x.bar(1, 0, true);
        x.given(0, 0, 2);
        x.fill();
        x.tour(1, false, 9);
        Due.due("start(0, 1)", x.start(0, 1), true);
        Due.rectangle("the rectangle", x, 2, 2, 1, 1, 2);
        Due.due("the given number", x.fills(9), 1);
        Due.due("the bar", x.bar(1, 0, true), false);
        Due.due("steps()", x.steps(), 2);
    }
}
