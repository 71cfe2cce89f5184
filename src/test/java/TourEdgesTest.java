/** The boundary cases of promises 4 to 7, each sentence by itself. */
public final class TourEdgesTest {
    private static final int MOST_STEPS = 100000;

    public static void main(String[] args) {
        promise4NoSuchPiece();
        promise4StepsTooSmall();
        promise4StepsTooLarge();
        promise4EdgesOfSteps();
        promise4DoingNothing();
        promise4DoingNothingAfterAVainSearch();
        promise4StepsJustDo();
        promise4StepsDoNotDo();
        promise4ThereIsNone();
        promise4CutOffCells();
        promise4StartBarred();
        promise4SingleCell();
        promise4TwoCells();
        promise4AllCellsOfTheGreatestBoard();
        promise4FewestFirst();
        promise4LeastOfAlikeOnes();
        promise4NextWhenNoTourComes();
        promise4NoTourThatDoesNotClose();
        promise4NotRoundTheEdges();
        promise4BarredAreNoCells();
        promise4OnlyTheTourChanges();
        promise5NoSuchPlace();
        promise5ShorterByBars();
        promise5NoneFound();
        promise5FoundLatest();
        promise6NoSearchYet();
        promise6Latest();
        promise6GoingBack();
        promise6Refused();
        promise6AfterOtherCalls();
        promise7NoSuchPiece();
        promise7NoSuchCell();
        promise7Corners();
        promise7NarrowBoards();
        promise7Barred();
        promise7FromABarredCell();
        promise7WhateverIsFound();
        Due.end();
    }

    private static void tour(TourForms x, int piece, boolean closed, int steps, int due) {
        Due.due("tour(" + piece + ", " + closed + ", " + steps + ")", x.tour(piece, closed, steps), due);
    }

    private static void made(TourForms x, int due) {
        Due.due("steps()", x.steps(), due);
    }

    private static void promise4NoSuchPiece() {
        Due.sentence(4, "-1 when there is no such piece");
        TourForms x = new TourForms(2, 2);
        for (int piece : Outside.range(0, 2)) {
            for (int steps : new int[] {0, 9, MOST_STEPS, -1, MOST_STEPS + 1}) {
                tour(x, piece, false, steps, -1);
                tour(x, piece, true, steps, -1);
            }
        }
        TourForms barred = new TourForms(2, 2);
        barred.bar(0, 0, true);
        tour(barred, 3, false, 9, -1);
        tour(barred, -1, true, 9, -1);
    }

    private static void promise4StepsTooSmall() {
        Due.sentence(4, "-1 when steps is not 0 (too small)");
        TourForms x = new TourForms(1, 1);
        TourForms barred = new TourForms(2, 2);
        barred.bar(0, 0, true);
        for (int steps : new int[] {-1, -2, -MOST_STEPS, Outside.LEAST, Outside.LEAST + 1}) {
            for (int piece = 0; piece < 3; piece++) {
                tour(x, piece, false, steps, -1);
                tour(x, piece, true, steps, -1);
                tour(barred, piece, false, steps, -1);
            }
        }
    }

    private static void promise4StepsTooLarge() {
        Due.sentence(4, "-1 when steps is not .. to 100,000 (too large)");
        TourForms x = new TourForms(1, 1);
        TourForms barred = new TourForms(2, 2);
        barred.bar(0, 0, true);
        for (int steps : new int[] {MOST_STEPS + 1, MOST_STEPS + 2, 1 << 30, Outside.MOST - 1, Outside.MOST}) {
            for (int piece = 0; piece < 3; piece++) {
                tour(x, piece, false, steps, -1);
                tour(x, piece, true, steps, -1);
                tour(barred, piece, false, steps, -1);
            }
        }
    }

    private static void promise4EdgesOfSteps() {
        Due.sentence(4, "steps .. 0 to 100,000: both ends are in it");
        TourForms x = new TourForms(6, 6);
        for (int piece = 0; piece < 3; piece++) {
            tour(x, piece, false, 0, 2);
            made(x, 0);
        }
        tour(x, 0, true, MOST_STEPS, 2);
        made(x, MOST_STEPS);
        tour(x, 0, true, MOST_STEPS - 1, 2);
        made(x, MOST_STEPS - 1);
        tour(x, 1, false, MOST_STEPS, 0);
        tour(x, 2, false, MOST_STEPS, 0);
    }

    private static void promise4DoingNothing() {
        Due.sentence(4, "-1, doing nothing");
        TourForms x = new TourForms(3, 2);
        tour(x, 2, true, 9, 0);
        int[][] refused = {{-1, 9}, {3, 9}, {Outside.MOST, 0}, {0, -1}, {1, MOST_STEPS + 1}, {2, Outside.LEAST}};
        for (int[] r : refused) {
            tour(x, r[0], false, r[1], -1);
            made(x, 8);
            Due.tour("the tour stays", x, 0, 3, 4, 5, 2, 1);
            tour(x, r[0], true, r[1], -1);
            made(x, 8);
            Due.tour("the tour stays", x, 0, 3, 4, 5, 2, 1);
        }
    }

    private static void promise4DoingNothingAfterAVainSearch() {
        Due.sentence(4, "-1, doing nothing, also behind a search that found none");
        TourForms x = new TourForms(3, 2);
        tour(x, 2, true, 7, 2);
        tour(x, 4, true, 9, -1);
        made(x, 7);
        Due.due("at(0)", x.at(0), -1);
        tour(x, 2, true, 9, 0);
        x.bar(2, 1, true);
        tour(x, 2, true, -9, -1);
        made(x, 8);
        Due.due("at(0)", x.at(0), -1);
    }

    private static void promise4StepsJustDo() {
        Due.sentence(4, "with at most so many STEPS: 0 it is found (with just as many)");
        TourForms x = new TourForms(3, 2);
        tour(x, 2, true, 8, 0);
        made(x, 8);
        Due.tour("there and back", x, 0, 3, 4, 5, 2, 1);
        tour(x, 2, false, 5, 0);
        made(x, 5);
        Due.tour("one way", x, 0, 3, 4, 1, 2, 5);
    }

    private static void promise4StepsDoNotDo() {
        Due.sentence(4, "2 the steps do not do (by one)");
        TourForms x = new TourForms(3, 2);
        for (int steps = 0; steps < 8; steps++) {
            tour(x, 2, true, steps, 2);
            made(x, steps);
            Due.due("at(0)", x.at(0), -1);
        }
        for (int steps = 0; steps < 5; steps++) {
            tour(x, 2, false, steps, 2);
            made(x, steps);
            Due.due("at(0)", x.at(0), -1);
        }
    }

    private static void promise4ThereIsNone() {
        Due.sentence(4, "1 there is none (when the steps just do to see it)");
        TourForms x = new TourForms(3, 1);
        x.start(1, 0);
        tour(x, 2, false, 0, 2);
        tour(x, 2, false, 1, 2);
        tour(x, 2, false, 2, 1);
        made(x, 2);
        tour(x, 2, false, MOST_STEPS, 1);
        made(x, 2);
        Due.due("at(0)", x.at(0), -1);
        x.start(0, 0);
        tour(x, 2, true, 1, 2);
        tour(x, 2, true, 2, 1);
        made(x, 2);
    }

    private static void promise4CutOffCells() {
        Due.sentence(4, "1 there is none: no way on at all");
        TourForms x = new TourForms(2, 2);
        for (int steps : new int[] {0, 1, MOST_STEPS}) {
            tour(x, 0, false, steps, 1);
            made(x, 0);
            tour(x, 0, true, steps, 1);
            made(x, 0);
        }
        TourForms middle = new TourForms(3, 3);
        middle.start(1, 1);
        tour(middle, 0, false, 0, 1);
        TourForms corner = new TourForms(3, 3);
        tour(corner, 0, false, 13, 2);
        tour(corner, 0, false, 14, 1);
        made(corner, 14);
        corner.bar(1, 1, true);
        tour(corner, 0, false, 7, 0);
        tour(corner, 0, true, 7, 0);
        Due.tour("round the middle", corner, 0, 5, 6, 1, 8, 3, 2, 7);
    }

    private static void promise4StartBarred() {
        Due.sentence(4, "1 there is none (also when THE START is barred)");
        TourForms x = new TourForms(3, 2);
        tour(x, 1, false, 50, 0);
        x.bar(0, 0, true);
        for (int piece = 0; piece < 3; piece++) {
            for (int steps : new int[] {0, 1, 50, MOST_STEPS}) {
                tour(x, piece, false, steps, 1);
                made(x, 0);
                Due.due("at(0)", x.at(0), -1);
                tour(x, piece, true, steps, 1);
                made(x, 0);
            }
        }
        x.start(1, 0);
        tour(x, 1, false, 50, 0);
        TourForms single = new TourForms(1, 1);
        single.bar(0, 0, true);
        tour(single, 0, false, 0, 1);
        TourForms oneLeft = new TourForms(2, 1);
        oneLeft.bar(0, 0, true);
        tour(oneLeft, 2, false, 9, 1);
        oneLeft.start(1, 0);
        tour(oneLeft, 2, false, 9, 0);
    }

    private static void promise4SingleCell() {
        Due.sentence(4, "CLOSED .. (one of a single cell is not)");
        for (int piece = 0; piece < 3; piece++) {
            TourForms x = new TourForms(1, 1);
            tour(x, piece, false, 0, 0);
            Due.tour("of one cell", x, 0);
            tour(x, piece, true, 0, 1);
            Due.due("at(0)", x.at(0), -1);
            tour(x, piece, true, MOST_STEPS, 1);
            made(x, 0);
            TourForms left = new TourForms(3, 3);
            left.start(1, 1);
            for (int cell = 0; cell < 9; cell++) {
                left.bar(cell % 3, cell / 3, cell != 4);
            }
            tour(left, piece, false, 0, 0);
            Due.tour("of one cell", left, 4);
            tour(left, piece, true, 5, 1);
        }
    }

    private static void promise4TwoCells() {
        Due.sentence(4, "CLOSED when it could go from its last cell to THE START, too (two cells)");
        TourForms x = new TourForms(2, 1);
        for (int piece = 1; piece < 3; piece++) {
            tour(x, piece, true, 1, 0);
            Due.tour("of two cells", x, 0, 1);
            made(x, 1);
        }
        tour(x, 0, true, 1, 1);
        TourForms leap = new TourForms(2, 3);
        for (int cell = 1; cell < 5; cell++) {
            leap.bar(cell % 2, cell / 2, true);
        }
        tour(leap, 0, true, 1, 0);
        Due.tour("of two cells", leap, 0, 5);
        tour(leap, 1, true, 1, 1);
    }

    private static void promise4AllCellsOfTheGreatestBoard() {
        Due.sentence(4, "comes to each cell that is not barred just once; .. CLOSED (all 36 cells)");
        TourForms x = new TourForms(6, 6);
        x.start(2, 2);
        tour(x, 0, true, 35, 0);
        Due.tour("piece 0", x, 14, 1, 12, 25, 33, 29, 16, 5, 9, 17, 4, 8, 0, 13, 24, 20, 28, 32, 21, 10, 2, 6, 19,
                30, 26, 34, 23, 15, 7, 3, 11, 22, 35, 27, 31, 18);
        tour(x, 0, true, 34, 2);
        x.start(4, 3);
        tour(x, 1, true, 35, 0);
        Due.tour("piece 1", x, 22, 17, 23, 29, 35, 34, 28, 33, 27, 32, 31, 30, 24, 18, 25, 26, 19, 12, 6, 0, 1, 2, 7,
                13, 20, 21, 14, 8, 3, 4, 5, 11, 10, 9, 15, 16);
        x.start(3, 5);
        tour(x, 2, true, 35, 0);
        Due.tour("piece 2", x, 33, 32, 31, 30, 24, 18, 12, 6, 0, 1, 2, 3, 4, 5, 11, 10, 9, 8, 7, 13, 14, 15, 16, 17,
                23, 22, 21, 20, 19, 25, 26, 27, 28, 29, 35, 34);
        x.start(2, 5);
        tour(x, 0, true, 57543, 2);
        made(x, 57543);
        tour(x, 0, true, 57544, 0);
        made(x, 57544);
        Due.due("at(35)", x.at(35), 21);
    }

    private static void promise4FewestFirst() {
        Due.sentence(4, "that one first from which fewest such cells can be gone to");
        TourForms x = new TourForms(3, 2);
        x.start(1, 1);
        tour(x, 2, false, 5, 0);
        Due.tour("not cell 1 first, the least", x, 4, 3, 0, 1, 2, 5);
        TourForms barred = new TourForms(3, 2);
        barred.start(1, 1);
        barred.bar(0, 0, true);
        barred.bar(2, 1, true);
        tour(barred, 2, false, 2, 2);
        tour(barred, 2, false, 3, 1);
        made(barred, 3);
    }

    private static void promise4LeastOfAlikeOnes() {
        Due.sentence(4, "of alike ones the least");
        TourForms x = new TourForms(2, 2);
        tour(x, 1, false, 3, 0);
        Due.tour("piece 1", x, 0, 1, 2, 3);
        tour(x, 2, false, 3, 0);
        Due.tour("piece 2", x, 0, 1, 3, 2);
        x.start(1, 1);
        tour(x, 1, false, 3, 0);
        Due.tour("piece 1", x, 3, 0, 1, 2);
        tour(x, 2, false, 3, 0);
        Due.tour("piece 2", x, 3, 1, 0, 2);
    }

    private static void promise4NextWhenNoTourComes() {
        Due.sentence(4, "then, when no tour comes of it, the next one in this order, and so on");
        TourForms x = new TourForms(2, 4);
        x.bar(0, 0, true);
        x.start(0, 1);
        tour(x, 2, false, 14, 2);
        tour(x, 2, false, 15, 0);
        made(x, 15);
        Due.tour("down and up", x, 2, 4, 6, 7, 5, 3, 1);
    }

    private static void promise4NoTourThatDoesNotClose() {
        Due.sentence(4, "CLOSED: one that does not close is gone back from");
        TourForms x = new TourForms(2, 3);
        tour(x, 1, true, 11, 2);
        tour(x, 1, true, 12, 0);
        made(x, 12);
        Due.tour("piece 1", x, 0, 1, 2, 4, 5, 3);
        TourForms odd = new TourForms(3, 3);
        tour(odd, 2, false, 8, 0);
        tour(odd, 2, true, MOST_STEPS, 1);
        Due.due("at(0)", odd.at(0), -1);
    }

    private static void promise4NotRoundTheEdges() {
        Due.sentence(4, "PIECES go to cells of the board (not round its edges)");
        TourForms line = new TourForms(6, 1);
        tour(line, 2, true, MOST_STEPS, 1);
        tour(line, 1, true, MOST_STEPS, 1);
        tour(line, 0, false, MOST_STEPS, 1);
        TourForms column = new TourForms(1, 6);
        tour(column, 2, true, MOST_STEPS, 1);
        tour(column, 1, true, MOST_STEPS, 1);
        tour(column, 0, false, MOST_STEPS, 1);
        TourForms parted = new TourForms(3, 2);
        parted.bar(0, 0, true);
        parted.bar(2, 1, true);
        parted.bar(1, 0, true);
        parted.bar(1, 1, true);
        parted.start(2, 0);
        tour(parted, 2, false, 9, 1);
        tour(parted, 1, false, 9, 1);
        made(parted, 0);
    }

    private static void promise4BarredAreNoCells() {
        Due.sentence(4, "(Barred cells are no cells for them.)");
        TourForms x = new TourForms(3, 1);
        x.bar(1, 0, true);
        tour(x, 2, false, 9, 1);
        made(x, 0);
        x.bar(2, 0, true);
        tour(x, 2, false, 9, 0);
        Due.tour("of what is left", x, 0);
        TourForms ring = new TourForms(3, 3);
        ring.bar(1, 1, true);
        tour(ring, 2, true, 7, 0);
        Due.tour("round", ring, 0, 1, 2, 5, 8, 7, 6, 3);
    }

    private static void promise4OnlyTheTourChanges() {
        Due.sentence(4, "A tour of a piece is searched (nothing else changes)");
        TourForms x = new TourForms(2, 2);
        x.given(0, 0, 2);
        x.fill();
        x.bar(1, 1, true);
        x.start(0, 1);
        tour(x, 1, true, 9, 0);
        Due.rectangle("the rectangle", x, 2, 2, 1, 1, 2);
        Due.due("the given number", x.fills(9), 1);
        Due.due("the bar", x.bar(1, 1, true), false);
        tour(x, 2, true, 9, 1);
        tour(x, 2, false, 9, 0);
        Due.tour("the start", x, 2, 0, 1);
    }

    private static void promise5NoSuchPlace() {
        Due.sentence(5, "-1 when there is none such");
        for (int[] sides : new int[][] {{1, 1}, {3, 2}, {6, 6}}) {
            TourForms x = new TourForms(sides[0], sides[1]);
            int cells = sides[0] * sides[1];
            tour(x, 1, false, MOST_STEPS, 0);
            Due.due("the first is the start", x.at(0), 0);
            Due.due("the last one is there", x.at(cells - 1) >= 0, true);
            for (int k : Outside.range(0, cells - 1)) {
                Due.due("at(" + k + ")", x.at(k), -1);
            }
        }
    }

    private static void promise5ShorterByBars() {
        Due.sentence(5, "-1 when there is none such (behind the last cell that is not barred)");
        TourForms x = new TourForms(2, 3);
        tour(x, 1, false, 50, 0);
        x.bar(1, 2, true);
        x.bar(0, 2, true);
        tour(x, 1, false, 50, 0);
        Due.tour("four cells", x, 0, 1, 2, 3);
        for (int k = 4; k <= 36; k++) {
            Due.due("at(" + k + ")", x.at(k), -1);
        }
    }

    private static void promise5NoneFound() {
        Due.sentence(5, "-1 when .. the latest search found none");
        TourForms x = new TourForms(3, 1);
        tour(x, 2, false, 9, 0);
        Due.due("at(0)", x.at(0), 0);
        tour(x, 2, true, 9, 1);
        nowhere(x);
        tour(x, 2, false, 9, 0);
        tour(x, 2, false, 1, 2);
        nowhere(x);
        tour(x, 2, false, 9, 0);
        x.bar(0, 0, true);
        tour(x, 2, false, 9, 1);
        nowhere(x);
        x.bar(0, 0, false);
        nowhere(x);
    }

    private static void nowhere(TourForms x) {
        for (int k = -1; k <= 3; k++) {
            Due.due("at(" + k + ")", x.at(k), -1);
        }
    }

    private static void promise5FoundLatest() {
        Due.sentence(5, "of the tour found latest");
        TourForms x = new TourForms(3, 2);
        tour(x, 2, false, 9, 0);
        tour(x, 2, true, 9, 0);
        Due.tour("the later one", x, 0, 3, 4, 5, 2, 1);
        tour(x, 2, false, 9, 0);
        Due.tour("the later one", x, 0, 3, 4, 1, 2, 5);
        x.queens();
        x.queen(0, 0);
        x.fill();
        x.fills(9);
        x.given(0, 0, 1);
        x.ways(0, 0);
        x.magic(3, 0, 0);
        Due.tour("other calls let it be", x, 0, 3, 4, 1, 2, 5);
    }

    private static void promise6NoSearchYet() {
        Due.sentence(6, "How many STEPS the latest search made (none yet)");
        TourForms x = new TourForms(4, 4);
        made(x, 0);
        x.fill();
        x.queens();
        made(x, 0);
        tour(x, 3, false, 9, -1);
        made(x, 0);
    }

    private static void promise6Latest() {
        Due.sentence(6, "the latest search (not all of them together)");
        TourForms x = new TourForms(3, 2);
        tour(x, 2, true, 50, 0);
        made(x, 8);
        made(x, 8);
        tour(x, 2, false, 50, 0);
        made(x, 5);
        tour(x, 2, false, 3, 2);
        made(x, 3);
        tour(x, 0, false, 50, 1);
        made(x, 1);
        x.bar(0, 0, true);
        tour(x, 2, false, 50, 1);
        made(x, 0);
    }

    private static void promise6GoingBack() {
        Due.sentence(6, "Each going to a cell is a STEP (not the going back)");
        TourForms x = new TourForms(3, 3);
        x.start(1, 1);
        x.bar(0, 0, true);
        x.bar(2, 0, true);
        x.bar(0, 2, true);
        x.bar(2, 2, true);
        tour(x, 2, false, MOST_STEPS, 1);
        made(x, 4);
        TourForms alone = new TourForms(1, 1);
        tour(alone, 2, false, 9, 0);
        Due.due("to be at the start is no step", alone.steps(), 0);
    }

    private static void promise6Refused() {
        Due.sentence(6, "the latest search (a refused one is none)");
        TourForms x = new TourForms(3, 2);
        tour(x, 2, true, 50, 0);
        for (int steps : Outside.range(0, MOST_STEPS)) {
            tour(x, 2, false, steps, -1);
            made(x, 8);
        }
        for (int piece : Outside.range(0, 2)) {
            tour(x, piece, false, 5, -1);
            made(x, 8);
        }
    }

    private static void promise6AfterOtherCalls() {
        Due.sentence(6, "the latest search (its tour may be gone)");
        TourForms x = new TourForms(3, 2);
        tour(x, 2, true, 50, 0);
        x.start(1, 0);
        made(x, 8);
        x.bar(0, 0, true);
        made(x, 8);
        x.bar(0, 0, false);
        made(x, 8);
        x.fills(9);
        x.ways(1, 1);
        made(x, 8);
    }

    private static void promise7NoSuchPiece() {
        Due.sentence(7, "-1 when there is no such piece");
        TourForms x = new TourForms(4, 4);
        for (int piece : Outside.range(0, 2)) {
            for (int cell : new int[] {0, 5, 15, 16, -1}) {
                Due.due(Outside.call("ways", piece, cell), x.ways(piece, cell), -1);
            }
        }
        int[] due = {4, 8, 4};
        for (int piece = 0; piece < 3; piece++) {
            Due.due(Outside.call("ways", piece, 5), x.ways(piece, 5), due[piece]);
        }
    }

    private static void promise7NoSuchCell() {
        Due.sentence(7, "-1 when there is no such .. cell");
        for (int[] sides : new int[][] {{1, 1}, {5, 2}, {2, 5}, {6, 6}}) {
            TourForms x = new TourForms(sides[0], sides[1]);
            int cells = sides[0] * sides[1];
            for (int piece = 0; piece < 3; piece++) {
                for (int cell : Outside.range(0, cells - 1)) {
                    Due.due(Outside.call("ways", piece, cell), x.ways(piece, cell), -1);
                }
                Due.due("the first cell", x.ways(piece, 0) >= 0, true);
                Due.due("the last cell", x.ways(piece, cells - 1) >= 0, true);
            }
        }
    }

    private static void promise7Corners() {
        Due.sentence(7, "To how many cells .. (not beyond the edges, nor round them)");
        TourForms x = new TourForms(6, 6);
        int[] cells = {0, 5, 30, 35, 1, 6, 11, 34, 7, 28, 14};
        int[][] due = {{2, 2, 2, 2, 3, 3, 3, 3, 4, 4, 8}, {3, 3, 3, 3, 5, 5, 5, 5, 8, 8, 8},
            {2, 2, 2, 2, 3, 3, 3, 3, 4, 4, 4}};
        for (int piece = 0; piece < 3; piece++) {
            for (int i = 0; i < cells.length; i++) {
                Due.due(Outside.call("ways", piece, cells[i]), x.ways(piece, cells[i]), due[piece][i]);
            }
        }
    }

    private static void promise7NarrowBoards() {
        Due.sentence(7, "To how many cells .. (boards of one or two rows or columns)");
        int[][] sides = {{1, 1}, {1, 2}, {2, 1}, {2, 2}, {3, 1}, {1, 3}, {3, 2}, {2, 3}};
        int[][] fromLast = {{0, 0, 0}, {0, 1, 1}, {0, 1, 1}, {0, 3, 2}, {0, 1, 1}, {0, 1, 1}, {1, 3, 2}, {1, 3, 2}};
        for (int i = 0; i < sides.length; i++) {
            TourForms x = new TourForms(sides[i][0], sides[i][1]);
            int last = sides[i][0] * sides[i][1] - 1;
            for (int piece = 0; piece < 3; piece++) {
                String name = sides[i][0] + " by " + sides[i][1] + ": " + Outside.call("ways", piece, last);
                Due.due(name, x.ways(piece, last), fromLast[i][piece]);
            }
        }
    }

    private static void promise7Barred() {
        Due.sentence(7, "cells that are not barred (none is left)");
        TourForms x = new TourForms(5, 5);
        int[][] left = {{8, 8, 4}, {8, 7, 4}, {8, 6, 3}, {7, 6, 3}};
        int[] bars = {-1, 6, 7, 3};
        for (int i = 0; i < bars.length; i++) {
            if (bars[i] >= 0) {
                x.bar(bars[i] % 5, bars[i] / 5, true);
            }
            for (int piece = 0; piece < 3; piece++) {
                Due.due("barred " + i + ", " + Outside.call("ways", piece, 12), x.ways(piece, 12), left[i][piece]);
            }
        }
        for (int cell = 0; cell < 25; cell++) {
            if (cell != 12) {
                x.bar(cell % 5, cell / 5, true);
            }
        }
        for (int piece = 0; piece < 3; piece++) {
            Due.due("all others barred, " + Outside.call("ways", piece, 12), x.ways(piece, 12), 0);
        }
    }

    private static void promise7FromABarredCell() {
        Due.sentence(7, "from a cell (one that is barred is a cell)");
        TourForms x = new TourForms(3, 3);
        x.bar(0, 0, true);
        x.bar(1, 1, true);
        int[] fromCorner = {2, 2, 2};
        int[] fromMiddle = {0, 7, 4};
        for (int piece = 0; piece < 3; piece++) {
            Due.due(Outside.call("ways", piece, 0), x.ways(piece, 0), fromCorner[piece]);
            Due.due(Outside.call("ways", piece, 4), x.ways(piece, 4), fromMiddle[piece]);
        }
    }

    private static void promise7WhateverIsFound() {
        Due.sentence(7, "that are not barred (a tour found does not matter)");
        TourForms x = new TourForms(3, 3);
        tour(x, 1, false, 50, 0);
        Due.due("ways(1, 4)", x.ways(1, 4), 8);
        Due.due("ways(2, 0)", x.ways(2, 0), 2);
        x.start(1, 1);
        Due.due("ways(1, 4)", x.ways(1, 4), 8);
        Due.due("the tour is gone by start alone", x.at(0), -1);
    }
}
