import java.util.Random;

/** Runs of calls of every kind, each answer compared with the plain form's; the seed is fixed. */
public final class PlainRunsTest {
    private static final int RUNS = 400;
    private static final int CALLS = 120;

    private final Random random;
    private final TourForms x;
    private final PlainForms plain;
    private final String name;
    private boolean fillKnown = true;

    private PlainRunsTest(int run) {
        random = new Random(run);
        int width = 1 + random.nextInt(6);
        int height = 1 + random.nextInt(6);
        x = new TourForms(width, height);
        plain = new PlainForms(width, height);
        name = "run " + run + " on " + width + " by " + height + ": ";
    }

    public static void main(String[] args) {
        for (int run = 0; run < RUNS; run++) {
            PlainRunsTest test = new PlainRunsTest(run);
            for (int call = 0; call < CALLS; call++) {
                test.call();
            }
        }
        Due.end();
    }

    private int side() {
        return random.nextInt(12) == 0 ? random.nextInt(10) - 2 : random.nextInt(6);
    }

    private void call() {
        switch (random.nextInt(13)) {
            case 0 -> bar(side(), side(), random.nextInt(3) > 0);
            case 1 -> start(side(), side());
            case 2, 3 -> tour(random.nextInt(30) == 0 ? random.nextInt(8) - 3 : random.nextInt(3),
                    random.nextBoolean(), random.nextInt(30) == 0 ? -1 : random.nextInt(300));
            case 4 -> at(random.nextInt(40) - 2);
            case 5 -> Due.due(name + "steps()", x.steps(), plain.steps());
            case 6 -> ways(random.nextInt(5) - 1, random.nextInt(40) - 2);
            case 7 -> queens(random.nextInt(8) - 1, side());
            case 8, 9 -> given(side(), side(), side());
            case 10 -> fill();
            case 11 -> number(side(), side());
            default -> fills(random.nextInt(10) == 0 ? random.nextInt(3000) - 1000 : random.nextInt(30));
        }
    }

    private void bar(int column, int row, boolean on) {
        Due.due(name + "bar", x.bar(column, row, on), plain.bar(column, row, on));
    }

    private void start(int column, int row) {
        Due.due(name + "start", x.start(column, row), plain.start(column, row));
    }

    private void tour(int piece, boolean closed, int most) {
        String call = name + "tour(" + piece + ", " + closed + ", " + most + ")";
        Due.due(call, x.tour(piece, closed, most), plain.tour(piece, closed, most));
        Due.due(call + " steps", x.steps(), plain.steps());
        for (int k = 0; k < 36; k++) {
            Due.due(call + " at " + k, x.at(k), plain.at(k));
        }
    }

    private void at(int k) {
        Due.due(name + "at(" + k + ")", x.at(k), plain.at(k));
    }

    private void ways(int piece, int cell) {
        Due.due(name + "ways(" + piece + ", " + cell + ")", x.ways(piece, cell), plain.ways(piece, cell));
    }

    private void queens(int k, int column) {
        if (plain.width < 6) {
            Due.due(name + "queens()", x.queens(), plain.queens());
            Due.due(name + "queen(" + k + ", " + column + ")", x.queen(k, column), plain.queen(k, column));
        }
    }

    private void given(int column, int row, int v) {
        boolean done = x.given(column, row, v);
        Due.due(name + "given", done, plain.given(column, row, v));
        fillKnown = fillKnown || done;
    }

    private void fill() {
        int due = plain.fill();
        boolean got = x.fill();
        fillKnown = due != PlainForms.TOO_LONG;
        if (fillKnown) {
            Due.due(name + "fill()", got, due == 1);
        }
        for (int cell = 0; cell < plain.width * plain.height; cell++) {
            number(cell % plain.width, cell / plain.width);
        }
    }

    private void number(int column, int row) {
        if (fillKnown) {
            Due.due(name + "number(" + column + ", " + row + ")", x.number(column, row), plain.number(column, row));
        }
    }

    private void fills(int most) {
        int due = plain.fills(most);
        int got = x.fills(most);
        if (due != PlainForms.TOO_LONG) {
            Due.due(name + "fills(" + most + ")", got, due);
        }
    }
}
