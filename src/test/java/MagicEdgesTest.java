/** The boundary cases of promise 14, each sentence by itself. */
public final class MagicEdgesTest {
    public static void main(String[] args) {
        promise14NEven();
        promise14NTooSmall();
        promise14NTooLarge();
        promise14EdgesOfN();
        promise14NoSuchCell();
        promise14MiddleOfRow0();
        promise14UpAndRight();
        promise14RoundTheTopEdge();
        promise14RoundTheRightEdge();
        promise14RoundTheCorner();
        promise14OneBelow();
        promise14EachNumberOnce();
        promise14WhateverTheBoard();
        Due.end();
    }

    private static void magic(TourForms x, int n, int column, int row, int due) {
        Due.due(Outside.call("magic", n, column, row), x.magic(n, column, row), due);
    }

    private static void promise14NEven() {
        Due.sentence(14, "-1 when n .. is not so (even)");
        TourForms x = new TourForms(6, 6);
        for (int n : new int[] {0, 2, 4, 6, 8, 10, 12, 14, 16, -2, -4, Outside.LEAST, Outside.MOST - 1}) {
            magic(x, n, 0, 0, -1);
            magic(x, n, 1, 1, -1);
        }
    }

    private static void promise14NTooSmall() {
        Due.sentence(14, "-1 when n .. is not so (too small)");
        TourForms x = new TourForms(6, 6);
        for (int n : new int[] {0, -1, -3, -15, -17, Outside.LEAST, Outside.LEAST + 1}) {
            magic(x, n, 0, 0, -1);
            magic(x, n, -1, -1, -1);
            magic(x, n, n, n, -1);
        }
    }

    private static void promise14NTooLarge() {
        Due.sentence(14, "-1 when n .. is not so (too large)");
        TourForms x = new TourForms(6, 6);
        for (int n : new int[] {16, 17, 19, 101, 65537, Outside.MOST - 1, Outside.MOST}) {
            magic(x, n, 0, 0, -1);
            magic(x, n, 8, 0, -1);
            magic(x, n, n - 1, n - 1, -1);
        }
    }

    private static void promise14EdgesOfN() {
        Due.sentence(14, "n odd, 1 to 15: both ends are in it");
        TourForms x = new TourForms(6, 6);
        magic(x, 1, 0, 0, 1);
        magic(x, 15, 7, 0, 1);
        magic(x, 15, 7, 14, 225);
        magic(x, 15, 0, 0, 122);
        magic(x, 15, 14, 14, 104);
        magic(x, 13, 6, 12, 169);
        magic(x, 3, 1, 2, 9);
    }

    private static void promise14NoSuchCell() {
        Due.sentence(14, "-1 when .. the cell is not so");
        TourForms x = new TourForms(6, 6);
        for (int n = 1; n <= 15; n += 2) {
            for (int[] cell : Outside.cells(n, n)) {
                magic(x, n, cell[0], cell[1], -1);
            }
            Due.due("the last cell of " + n, x.magic(n, n - 1, n - 1) >= 1, true);
        }
    }

    private static void promise14MiddleOfRow0() {
        Due.sentence(14, "1 is in the middle of row 0");
        TourForms x = new TourForms(6, 6);
        for (int n = 1; n <= 15; n += 2) {
            magic(x, n, n / 2, 0, 1);
        }
    }

    /** The cell x + n y of each number of the square, by index. */
    private static int[] cellsOf(TourForms x, int n) {
        int[] cells = new int[n * n + 1];
        for (int cell = 0; cell < n * n; cell++) {
            int number = x.magic(n, cell % n, cell / n);
            if (number >= 1 && number <= n * n) {
                cells[number] = cell;
            }
        }
        return cells;
    }

    private static void promise14UpAndRight() {
        Due.sentence(14, "behind each number the next one is one up and one right");
        TourForms x = new TourForms(6, 6);
        for (int n = 3; n <= 15; n += 2) {
            int[] cells = cellsOf(x, n);
            for (int number = 1; number < n * n; number++) {
                int column = cells[number] % n;
                int row = cells[number] / n;
                if (number % n != 0 && row > 0 && column < n - 1) {
                    Due.due("behind " + number + " of " + n, cells[number + 1], column + 1 + n * (row - 1));
                }
            }
        }
    }

    private static void promise14RoundTheTopEdge() {
        Due.sentence(14, "round the edges (from row 0 to the last row)");
        TourForms x = new TourForms(6, 6);
        magic(x, 3, 2, 2, 2);
        magic(x, 5, 3, 4, 2);
        magic(x, 5, 3, 0, 8);
        magic(x, 5, 4, 4, 9);
        magic(x, 15, 8, 14, 2);
    }

    private static void promise14RoundTheRightEdge() {
        Due.sentence(14, "round the edges (from the last column to column 0)");
        TourForms x = new TourForms(6, 6);
        magic(x, 3, 0, 1, 3);
        magic(x, 5, 4, 3, 3);
        magic(x, 5, 0, 2, 4);
        magic(x, 5, 4, 1, 16);
        magic(x, 5, 0, 0, 17);
    }

    private static void promise14RoundTheCorner() {
        Due.sentence(14, "round the edges (at the corner there is a number already)");
        TourForms x = new TourForms(6, 6);
        magic(x, 3, 2, 0, 6);
        magic(x, 3, 0, 2, 4);
        magic(x, 3, 2, 1, 7);
        magic(x, 5, 4, 0, 15);
        magic(x, 5, 0, 4, 11);
        magic(x, 5, 4, 1, 16);
        for (int n = 3; n <= 15; n += 2) {
            int corner = x.magic(n, n - 1, 0);
            magic(x, n, n - 1, 1, corner + 1);
        }
    }

    private static void promise14OneBelow() {
        Due.sentence(14, "where there is one already, it is one below the number instead");
        TourForms x = new TourForms(6, 6);
        for (int n = 3; n <= 15; n += 2) {
            int[] cells = cellsOf(x, n);
            for (int number = n; number < n * n; number += n) {
                Due.due("behind " + number + " of " + n, cells[number + 1], cells[number] + n);
            }
        }
    }

    private static void promise14EachNumberOnce() {
        Due.sentence(14, "MAGIC square: each number once, all lines with one sum");
        TourForms x = new TourForms(6, 6);
        for (int n = 1; n <= 15; n += 2) {
            int[] seen = new int[n * n + 1];
            int down = 0;
            int up = 0;
            for (int i = 0; i < n; i++) {
                int row = 0;
                int column = 0;
                for (int j = 0; j < n; j++) {
                    seen[Math.max(0, Math.min(n * n, x.magic(n, i, j)))]++;
                    column += x.magic(n, i, j);
                    row += x.magic(n, j, i);
                }
                down += x.magic(n, i, i);
                up += x.magic(n, i, n - 1 - i);
                Due.due("column " + i + " of " + n, column, n * (n * n + 1) / 2);
                Due.due("row " + i + " of " + n, row, n * (n * n + 1) / 2);
            }
            Due.due("down " + n, down, n * (n * n + 1) / 2);
            Due.due("up " + n, up, n * (n * n + 1) / 2);
            for (int number = 1; number <= n * n; number++) {
                Due.due("how often " + number + " of " + n, seen[number], 1);
            }
        }
    }

    private static void promise14WhateverTheBoard() {
        Due.sentence(14, "of the MAGIC square of n by n (the board does not matter, nor is it changed)");
        TourForms x = new TourForms(1, 2);
        x.bar(0, 1, true);
        x.given(0, 0, 2);
        x.fill();
        x.tour(2, false, 9);
        magic(x, 3, 2, 2, 2);
        magic(x, 15, 7, 7, 113);
        magic(x, 15, 15, 7, -1);
        Due.rectangle("the rectangle", x, 1, 2, 1);
        Due.tour("the tour", x, 0);
    }
}
