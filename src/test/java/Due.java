/** Compares answers with the ones that are due, prints those that differ, and ends a test. */
final class Due {
    private static int checked = 0;
    private static int wrong = 0;
    private static String sentence = "";
    private static int checkedBeforeSentence = -1;

    private Due() {
    }

    /** What comes next tests this sentence of the document. */
    static void sentence(int promise, String words) {
        endSentence();
        sentence = "Promise " + promise + ", \"" + words + "\": ";
        checkedBeforeSentence = checked;
    }

    /** A sentence that is named but not looked at would pass for ever. */
    private static void endSentence() {
        if (checked == checkedBeforeSentence) {
            wrong++;
            System.out.println(sentence + "nothing was tested");
        }
    }

    static void due(String call, long got, long want) {
        checked++;
        if (got != want) {
            wrong++;
            System.out.println(sentence + call + " answered " + got + ", due is " + want);
        }
    }

    static void due(String call, boolean got, boolean want) {
        due(call, got ? 1L : 0L, want ? 1L : 0L);
    }

    /** The tour found has these cells, in this order, and no more. */
    static void tour(String call, TourForms x, int... cells) {
        for (int k = 0; k < cells.length; k++) {
            due(call + ", at(" + k + ")", x.at(k), cells[k]);
        }
        due(call + ", at(" + cells.length + ")", x.at(cells.length), -1);
    }

    /** The rectangle found has these numbers, row by row. */
    static void rectangle(String call, TourForms x, int width, int... numbers) {
        for (int cell = 0; cell < numbers.length; cell++) {
            int column = cell % width;
            int row = cell / width;
            due(call + ", number(" + column + ", " + row + ")", x.number(column, row), numbers[cell]);
        }
    }

    static void end() {
        endSentence();
        System.out.println((checked - wrong) + " passed, " + wrong + " failed");
        if (wrong != 0 || checked == 0) {
            System.exit(1);
        }
    }
}
