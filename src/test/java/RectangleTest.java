/** Promises 10 to 13: given, fill, number, fills. */
public final class RectangleTest {
    private static final int LEAST = Integer.MIN_VALUE;
    private static final int MOST = Integer.MAX_VALUE;

    public static void main(String[] args) {
        everyBoard();
        knownCounts();
        wrongGiven();
        givenForgetsTheRectangle();
        givenAgainstEachOther();
        onlyLateSeenToBeImpossible();
        leastWithLateGiven();
        mostIsHeld();
        barsDoNotMatter();
        Due.end();
    }

    private static void everyBoard() {
        for (int width = 1; width <= 6; width++) {
            for (int height = 1; height <= 6; height++) {
                String name = width + " by " + height + ": ";
                TourForms x = new TourForms(width, height);
                PlainForms plain = new PlainForms(width, height);
                Due.due(name + "fills(7)", x.fills(7), plain.fills(7));
                Due.due(name + "counting finds nothing", x.number(0, 0), 0);
                Due.due(name + "fill()", x.fill(), plain.fill() == 1);
                for (int cell = 0; cell < width * height; cell++) {
                    Due.due(name + "number at " + cell, x.number(cell % width, cell / width),
                            plain.number(cell % width, cell / width));
                }
            }
        }
    }

    private static void knownCounts() {
        int[][] counts = {{1, 1, 1}, {1, 2, 2}, {2, 3, 12}, {3, 3, 12}, {4, 4, 576}, {3, 4, 576}, {4, 3, 576},
            {1, 6, 720}, {6, 1, 720}, {2, 4, 216}, {4, 2, 216}};
        for (int[] c : counts) {
            Due.due(c[0] + " by " + c[1], new TourForms(c[0], c[1]).fills(1000), c[2]);
        }
    }

    private static void wrongGiven() {
        TourForms x = new TourForms(3, 2);
        Due.due("fill()", x.fill(), true);
        int[][] wrong = {{-1, 0, 1}, {0, -1, 1}, {3, 0, 1}, {0, 2, 1}, {0, 0, -1}, {0, 0, 4}, {LEAST, 0, 0},
            {MOST, 0, 0}, {0, LEAST, 0}, {0, MOST, 0}, {0, 0, LEAST}, {0, 0, MOST}};
        for (int[] w : wrong) {
            Due.due("given(" + w[0] + ", " + w[1] + ", " + w[2] + ")", x.given(w[0], w[1], w[2]), false);
            Due.due("the rectangle stays", x.number(2, 0), 3);
        }
        Due.due("nothing was given", x.fills(1000), 12);
        int[][] none = {{-1, 0}, {0, -1}, {3, 0}, {0, 2}, {LEAST, 0}, {0, MOST}};
        for (int[] n : none) {
            Due.due("no cell for number", x.number(n[0], n[1]), -1);
        }
        x.given(0, 0, 0);
        for (int[] n : none) {
            Due.due("no cell, no rectangle either", x.number(n[0], n[1]), -1);
        }
    }

    private static void givenForgetsTheRectangle() {
        TourForms x = new TourForms(2, 2);
        Due.due("number without fill", x.number(1, 1), 0);
        Due.due("fill()", x.fill(), true);
        Due.due("number(1, 1)", x.number(1, 1), 1);
        Due.due("counting lets it be", x.fills(1000), 2);
        Due.due("number(0, 1)", x.number(0, 1), 2);
        Due.due("0 where none is given", x.given(0, 0, 0), true);
        Due.due("gone", x.number(1, 1), 0);
        Due.due("given", x.given(1, 1, 2), true);
        Due.due("fill()", x.fill(), true);
        Due.due("number(0, 0)", x.number(0, 0), 2);
        Due.due("number(1, 0)", x.number(1, 0), 1);
        Due.due("the same again", x.given(1, 1, 2), true);
        Due.due("gone", x.number(0, 0), 0);
        Due.due("another number there", x.given(1, 1, 1), true);
        Due.due("fill()", x.fill(), true);
        Due.due("number(0, 0)", x.number(0, 0), 1);
        Due.due("tour", x.tour(1, true, 10), 0);
        Due.due("given", x.given(1, 1, 0), true);
        Due.due("the tour is not gone", x.at(0), 0);
    }

    private static void givenAgainstEachOther() {
        TourForms x = new TourForms(4, 4);
        x.given(0, 1, 3);
        x.given(3, 1, 3);
        Due.due("twice in a row", x.fill(), false);
        Due.due("number(0, 1)", x.number(0, 1), 0);
        Due.due("fills(1000)", x.fills(1000), 0);
        x.given(3, 1, 0);
        Due.due("taken back", x.fill(), true);
        x.given(0, 3, 3);
        Due.due("twice in a column", x.fill(), false);
        Due.due("fills(0)", x.fills(0), 0);
        x.given(0, 3, 4);
        Due.due("mended", x.fill(), true);
        Due.due("number(0, 3)", x.number(0, 3), 4);
    }

    private static void onlyLateSeenToBeImpossible() {
        TourForms x = new TourForms(6, 6);
        for (int v = 1; v <= 4; v++) {
            x.given(v - 1, 5, v);
        }
        x.given(4, 3, 6);
        x.given(4, 4, 5);
        Due.due("no number is left for (4, 5)", x.fill(), false);
        Due.due("fills(1000)", x.fills(1000), 0);
        x.given(4, 4, 0);
        Due.due("one is", x.fill(), true);
        Due.due("number(4, 5)", x.number(4, 5), 5);
        Due.due("fills(1000)", x.fills(1000), 1000);
    }

    private static void leastWithLateGiven() {
        int[] due = {1, 2, 3, 4, 5, 2, 1, 4, 5, 3, 3, 5, 1, 2, 4, 4, 3, 5, 1, 2, 5, 4, 2, 3, 1};
        TourForms x = new TourForms(5, 5);
        x.given(4, 4, 1);
        x.given(1, 4, 4);
        x.given(2, 2, 1);
        Due.due("fill()", x.fill(), true);
        for (int cell = 0; cell < due.length; cell++) {
            Due.due("number at " + cell, x.number(cell % 5, cell / 5), due[cell]);
        }
    }

    private static void mostIsHeld() {
        TourForms x = new TourForms(3, 3);
        int[] most = {0, 1, 11, 12, 13, 1000};
        for (int m : most) {
            Due.due("fills(" + m + ")", x.fills(m), Math.min(m, 12));
        }
        int[] wrong = {-1, 1001, LEAST, MOST};
        for (int m : wrong) {
            Due.due("fills(" + m + ")", x.fills(m), -1);
        }
        TourForms many = new TourForms(6, 6);
        Due.due("fills(1000)", many.fills(1000), 1000);
        Due.due("fills(999)", many.fills(999), 999);
    }

    private static void barsDoNotMatter() {
        TourForms x = new TourForms(3, 3);
        for (int cell = 0; cell < 9; cell++) {
            x.bar(cell % 3, cell / 3, true);
        }
        Due.due("fills(1000)", x.fills(1000), 12);
        Due.due("given at a barred cell", x.given(0, 0, 3), true);
        Due.due("fill()", x.fill(), true);
        int[] due = {3, 1, 2, 1, 2, 3, 2, 3, 1};
        for (int cell = 0; cell < 9; cell++) {
            Due.due("number at " + cell, x.number(cell % 3, cell / 3), due[cell]);
        }
    }
}
