/** Promises 4 to 7: tour, at, steps, ways. */
public final class TourTest {
    private static final int LEAST = Integer.MIN_VALUE;
    private static final int MOST = Integer.MAX_VALUE;

    public static void main(String[] args) {
        againstThePlainSearch();
        stepsJustDo();
        noneIsToldWhenNoStepIsLeftToMake();
        singleCells();
        closedOfTwoCells();
        barredStart();
        wrongArgumentsDoNothing();
        atOutsideTheTour();
        waysOfEachPiece();
        waysBesideBars();
        Due.end();
    }

    private static void againstThePlainSearch() {
        for (int width = 1; width <= 6; width++) {
            for (int height = 1; height <= 6; height++) {
                for (int start = 0; start < width * height; start++) {
                    TourForms x = new TourForms(width, height);
                    PlainForms plain = new PlainForms(width, height);
                    x.start(start % width, start / width);
                    plain.start(start % width, start / width);
                    for (int kind = 0; kind < 6; kind++) {
                        String name = width + " by " + height + " from " + start + " kind " + kind;
                        boolean closed = kind >= 3;
                        Due.due(name, x.tour(kind % 3, closed, 700), plain.tour(kind % 3, closed, 700));
                        Due.due(name + " steps", x.steps(), plain.steps());
                        for (int k = -1; k <= width * height; k++) {
                            Due.due(name + " at " + k, x.at(k), plain.at(k));
                        }
                    }
                }
            }
        }
    }

    private static void stepsJustDo() {
        TourForms x = new TourForms(5, 5);
        Due.due("24 steps do", x.tour(0, false, 24), 0);
        Due.due("steps()", x.steps(), 24);
        Due.due("at(24)", x.at(24), 18);
        Due.due("23 do not", x.tour(0, false, 23), 2);
        Due.due("steps()", x.steps(), 23);
        Due.due("the tour before is gone", x.at(0), -1);
        Due.due("0 do not", x.tour(0, false, 0), 2);
        Due.due("steps()", x.steps(), 0);
        Due.due("most steps that may be asked", x.tour(0, true, 100000), 2);
        Due.due("steps()", x.steps(), 100000);
    }

    private static void noneIsToldWhenNoStepIsLeftToMake() {
        TourForms x = new TourForms(3, 2);
        Due.due("one step shows that there is none", x.tour(0, false, 1), 1);
        Due.due("steps()", x.steps(), 1);
        Due.due("without it one cannot know", x.tour(0, false, 0), 2);
        Due.due("steps()", x.steps(), 0);
        TourForms shut = new TourForms(3, 3);
        shut.start(1, 1);
        Due.due("no way on from the middle", shut.tour(0, false, 0), 1);
        Due.due("at(0)", shut.at(0), -1);
        TourForms line = new TourForms(4, 1);
        Due.due("a line is no ring", line.tour(2, true, 3), 1);
        Due.due("steps()", line.steps(), 3);
    }

    private static void singleCells() {
        for (int piece = 0; piece < 3; piece++) {
            TourForms x = new TourForms(1, 1);
            Due.due("one cell", x.tour(piece, false, 0), 0);
            Due.due("at(0)", x.at(0), 0);
            Due.due("at(1)", x.at(1), -1);
            Due.due("one cell does not close", x.tour(piece, true, 5), 1);
            Due.due("at(0)", x.at(0), -1);
            TourForms left = new TourForms(2, 1);
            left.bar(0, 0, true);
            left.start(1, 0);
            Due.due("one cell left", left.tour(piece, false, 0), 0);
            Due.due("at(0)", left.at(0), 1);
            Due.due("one cell left does not close", left.tour(piece, true, 0), 1);
        }
    }

    private static void closedOfTwoCells() {
        TourForms x = new TourForms(2, 1);
        Due.due("there and back", x.tour(2, true, 1), 0);
        Due.due("at(1)", x.at(1), 1);
        Due.due("steps()", x.steps(), 1);
    }

    private static void barredStart() {
        TourForms x = new TourForms(3, 3);
        Due.due("tour", x.tour(1, true, 100), 0);
        Due.due("bar", x.bar(0, 0, true), true);
        Due.due("tour from a barred start", x.tour(1, true, 100), 1);
        Due.due("it makes no step", x.steps(), 0);
        Due.due("at(0)", x.at(0), -1);
    }

    private static void wrongArgumentsDoNothing() {
        TourForms x = new TourForms(3, 4);
        Due.due("tour", x.tour(0, false, 1000), 0);
        int made = x.steps();
        int last = x.at(11);
        int[][] wrong = {{-1, 5}, {3, 5}, {LEAST, 5}, {MOST, 5}, {0, -1}, {0, 100001}, {2, LEAST}, {1, MOST}};
        for (int[] call : wrong) {
            Due.due("tour(" + call[0] + ", " + call[1] + ")", x.tour(call[0], false, call[1]), -1);
            Due.due("closed too", x.tour(call[0], true, call[1]), -1);
            Due.due("steps stay", x.steps(), made);
            Due.due("the tour stays", x.at(11), last);
        }
    }

    private static void atOutsideTheTour() {
        TourForms x = new TourForms(2, 2);
        x.bar(1, 1, true);
        Due.due("tour", x.tour(1, true, 9), 0);
        int[] due = {0, 1, 2, -1, -1};
        for (int k = 0; k < due.length; k++) {
            Due.due("at(" + k + ")", x.at(k), due[k]);
        }
        Due.due("at(-1)", x.at(-1), -1);
        Due.due("at least", x.at(LEAST), -1);
        Due.due("at most", x.at(MOST), -1);
        Due.due("at(36)", x.at(36), -1);
    }

    private static void waysOfEachPiece() {
        for (int width = 1; width <= 6; width++) {
            for (int height = 1; height <= 6; height++) {
                TourForms x = new TourForms(width, height);
                PlainForms plain = new PlainForms(width, height);
                for (int piece = -1; piece <= 3; piece++) {
                    for (int cell = -1; cell <= 37; cell++) {
                        Due.due(width + " by " + height + ": ways(" + piece + ", " + cell + ")",
                                x.ways(piece, cell), plain.ways(piece, cell));
                    }
                }
                Due.due("ways(MOST, 0)", x.ways(MOST, 0), -1);
                Due.due("ways(LEAST, 0)", x.ways(LEAST, 0), -1);
                Due.due("ways(0, MOST)", x.ways(0, MOST), -1);
                Due.due("ways(0, LEAST)", x.ways(0, LEAST), -1);
            }
        }
    }

    private static void waysBesideBars() {
        TourForms x = new TourForms(5, 5);
        int[] free = {8, 8, 4};
        for (int piece = 0; piece < 3; piece++) {
            Due.due("from the middle", x.ways(piece, 12), free[piece]);
        }
        x.bar(2, 1, true);
        x.bar(4, 3, true);
        int[] barred = {7, 7, 3};
        for (int piece = 0; piece < 3; piece++) {
            Due.due("two barred", x.ways(piece, 12), barred[piece]);
        }
        x.bar(2, 2, true);
        for (int piece = 0; piece < 3; piece++) {
            Due.due("from a barred cell", x.ways(piece, 12), barred[piece]);
        }
    }
}
