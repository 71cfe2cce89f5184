/** Promise 14: magic. */
public final class MagicTest {
    public static void main(String[] args) {
        TourForms x = new TourForms(1, 1);
        for (int n = -2; n <= 18; n++) {
            for (int column = -2; column <= 18; column++) {
                for (int row = -2; row <= 18; row++) {
                    Due.due("magic(" + n + ", " + column + ", " + row + ")", x.magic(n, column, row),
                            PlainForms.magic(n, column, row));
                }
            }
        }
        knownSquare(x);
        sums(x);
        wrong(x);
        Due.end();
    }

    private static void knownSquare(TourForms x) {
        int[] square = {17, 24, 1, 8, 15, 23, 5, 7, 14, 16, 4, 6, 13, 20, 22, 10, 12, 19, 21, 3, 11, 18, 25, 2, 9};
        for (int cell = 0; cell < 25; cell++) {
            Due.due("five by five at " + cell, x.magic(5, cell % 5, cell / 5), square[cell]);
        }
    }

    private static void sums(TourForms x) {
        for (int n = 1; n <= 15; n += 2) {
            int due = n * (n * n + 1) / 2;
            for (int line = 0; line < n; line++) {
                int row = 0;
                int column = 0;
                for (int i = 0; i < n; i++) {
                    row += x.magic(n, i, line);
                    column += x.magic(n, line, i);
                }
                Due.due("row " + line + " of " + n, row, due);
                Due.due("column " + line + " of " + n, column, due);
            }
        }
    }

    private static void wrong(TourForms x) {
        int[] far = {Integer.MIN_VALUE, -1, Integer.MAX_VALUE};
        for (int f : far) {
            Due.due("n " + f, x.magic(f, 0, 0), -1);
            Due.due("x " + f, x.magic(3, f, 0), -1);
            Due.due("y " + f, x.magic(3, 0, f), -1);
        }
    }
}
