/** Promises 1 to 3: a new object, bar, start. */
public final class BoardTest {
    private static final int LEAST = Integer.MIN_VALUE;
    private static final int MOST = Integer.MAX_VALUE;

    public static void main(String[] args) {
        nothingInANewObject();
        sidesAreHeld();
        barring();
        barringForgetsTheTour();
        starting();
        Due.end();
    }

    private static void nothingInANewObject() {
        TourForms x = new TourForms(4, 3);
        Due.due("new: steps()", x.steps(), 0);
        Due.due("new: at(0)", x.at(0), -1);
        for (int cell = 0; cell < 12; cell++) {
            Due.due("new: number", x.number(cell % 4, cell / 4), 0);
            Due.due("new: not barred", x.bar(cell % 4, cell / 4, false), false);
        }
        Due.due("new: tour(2, false, 11)", x.tour(2, false, 11), 0);
        Due.due("new: start is cell 0", x.at(0), 0);
        Due.due("new: nothing given", x.fills(1000), 576);
    }

    private static void sidesAreHeld() {
        int[] asked = {LEAST, -1, 0, 1, 2, 3, 4, 5, 6, 7, 100, MOST};
        int[] held = {1, 1, 1, 1, 2, 3, 4, 5, 6, 6, 6, 6};
        for (int i = 0; i < asked.length; i++) {
            for (int j = 0; j < asked.length; j++) {
                TourForms x = new TourForms(asked[i], asked[j]);
                String name = "TourForms(" + asked[i] + ", " + asked[j] + "): ";
                int last = held[i] * held[j] - 1;
                Due.due(name + "last cell", x.ways(0, last) >= 0, true);
                Due.due(name + "behind the last cell", x.ways(0, last + 1), -1);
                Due.due(name + "corner", x.number(held[i] - 1, held[j] - 1), 0);
                Due.due(name + "right of the corner", x.number(held[i], held[j] - 1), -1);
                Due.due(name + "below the corner", x.number(held[i] - 1, held[j]), -1);
                int greatest = Math.max(held[i], held[j]);
                Due.due(name + "N is allowed", x.given(0, 0, greatest), true);
                Due.due(name + "N + 1 is not", x.given(0, 0, greatest + 1), false);
            }
        }
    }

    private static void barring() {
        TourForms x = new TourForms(3, 2);
        Due.due("bar off what is off", x.bar(2, 1, false), false);
        Due.due("bar", x.bar(2, 1, true), true);
        Due.due("bar again", x.bar(2, 1, true), false);
        Due.due("barred for piece 2", x.ways(2, 2), 1);
        Due.due("bar off", x.bar(2, 1, false), true);
        Due.due("bar off again", x.bar(2, 1, false), false);
        Due.due("no more barred", x.ways(2, 2), 2);
        int[][] none = {{-1, 0}, {0, -1}, {3, 0}, {0, 2}, {LEAST, 0}, {0, LEAST}, {MOST, 0}, {0, MOST}, {MOST, MOST}};
        for (int[] cell : none) {
            Due.due("no cell to bar", x.bar(cell[0], cell[1], true), false);
            Due.due("no cell to free", x.bar(cell[0], cell[1], false), false);
        }
        for (int cell = 0; cell < 6; cell++) {
            Due.due("nothing was barred", x.bar(cell % 3, cell / 3, true), true);
        }
    }

    private static void barringForgetsTheTour() {
        TourForms x = new TourForms(3, 3);
        Due.due("tour", x.tour(1, false, 1000), 0);
        Due.due("bar of no cell", x.bar(3, 0, true), false);
        Due.due("bar of what is so", x.bar(2, 2, false), false);
        Due.due("tour still there", x.at(0), 0);
        int made = x.steps();
        Due.due("bar", x.bar(2, 2, true), true);
        Due.due("tour gone", x.at(0), -1);
        Due.due("the steps were made all the same", x.steps(), made);
        Due.due("free again", x.bar(2, 2, false), true);
        Due.due("tour stays gone", x.at(0), -1);
        Due.due("rectangle", x.fill(), true);
        Due.due("bar", x.bar(1, 1, true), true);
        Due.due("rectangle is not gone", x.number(1, 1), 3);
    }

    private static void starting() {
        TourForms x = new TourForms(4, 2);
        Due.due("start", x.start(3, 1), true);
        Due.due("tour", x.tour(2, true, 1000), 0);
        Due.due("begins there", x.at(0), 7);
        int[][] none = {{-1, 0}, {0, -1}, {4, 0}, {0, 2}, {LEAST, LEAST}, {MOST, 1}, {1, MOST}};
        for (int[] cell : none) {
            Due.due("no cell to start", x.start(cell[0], cell[1]), false);
        }
        Due.due("tour still there", x.at(0), 7);
        int made = x.steps();
        Due.due("the same start", x.start(3, 1), true);
        Due.due("tour gone", x.at(0), -1);
        Due.due("the steps were made all the same", x.steps(), made);
        Due.due("a barred cell", x.bar(1, 0, true), true);
        Due.due("may be the start", x.start(1, 0), true);
        Due.due("but has no tour", x.tour(1, false, 1000), 1);
        Due.due("free", x.bar(1, 0, false), true);
        Due.due("tour", x.tour(1, false, 1000), 0);
        Due.due("begins there", x.at(0), 1);
    }
}
