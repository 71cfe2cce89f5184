/** What binds all promises: 512 calls of one object, each as due, and no call that throws. */
public final class RunEdgesTest {
    private static final int CALLS = 512;
    private static final int[] ODD = {Integer.MIN_VALUE, Integer.MIN_VALUE + 1, -100001, -1, 0, 1, 5, 6, 7, 35, 36,
        1000, 1001, 100000, 100001, 1 << 30, Integer.MAX_VALUE - 1, Integer.MAX_VALUE};

    public static void main(String[] args) {
        promise4EachOf512Searches();
        promise13EachOf512Counts();
        promise11EachOf512Fills();
        noCallThrows();
        Due.end();
    }

    private static void promise4EachOf512Searches() {
        Due.sentence(4, "at most 512 calls: the last one answers as the first");
        TourForms x = new TourForms(6, 6);
        int wrong = 0;
        for (int call = 0; call < CALLS / 2; call++) {
            wrong += x.tour(0, true, 100000) == 2 && x.steps() == 100000 ? 0 : 1;
        }
        Due.due("answers that are not as due", wrong, 0);
    }

    private static void promise13EachOf512Counts() {
        Due.sentence(13, "at most 512 calls: the last one answers as the first");
        TourForms x = new TourForms(6, 6);
        int wrong = 0;
        for (int call = 0; call < CALLS; call++) {
            wrong += x.fills(1000) == 1000 ? 0 : 1;
        }
        Due.due("answers that are not as due", wrong, 0);
    }

    private static void promise11EachOf512Fills() {
        Due.sentence(11, "at most 512 calls: the last one answers as the first");
        TourForms x = new TourForms(6, 6);
        int wrong = 0;
        for (int call = 0; call < CALLS / 4; call++) {
            int v = 1 + call % 6;
            wrong += x.given(5, 5, v) && x.number(5, 5) == 0 && x.fill() && x.number(5, 5) == v ? 0 : 1;
        }
        Due.due("answers that are not as due", wrong, 0);
    }

    /** Each int argument is one of the odd numbers, on boards with much, little and nothing found. */
    private static void noCallThrows() {
        Due.sentence(1, "no call throws, whatever is asked");
        for (int state = 0; state < 4; state++) {
            for (int a : ODD) {
                for (int b : ODD) {
                    TourForms x = inState(state, a, b);
                    Due.due("calls with " + a + " and " + b, callAll(x, a, b), false);
                }
            }
        }
    }

    private static TourForms inState(int state, int width, int height) {
        TourForms x = state == 0 ? new TourForms(width, height) : new TourForms(1 + state, 4 - state);
        if (state == 1) {
            x.tour(2, false, 100);
            x.fill();
        } else if (state == 2) {
            for (int cell = 0; cell < 6; cell++) {
                x.bar(cell % 3, cell / 3, true);
                x.given(cell % 3, cell / 3, 1);
            }
        }
        return x;
    }

    private static boolean callAll(TourForms x, int a, int b) {
        try {
            x.bar(a, b, true);
            x.start(b, a);
            x.tour(a, true, Math.min(b, 200));
            x.tour(a, false, b > 200 && b <= 100000 ? 200 : b);
            x.at(a);
            x.steps();
            x.ways(a, b);
            x.queens();
            x.queen(a, b);
            x.given(a, b, a);
            x.given(0, a, b);
            x.fill();
            x.number(a, b);
            x.fills(a);
            x.magic(a, b, 0);
            x.magic(15, a, b);
            x.bar(a, b, false);
            return false;
        } catch (RuntimeException thrown) {
            System.out.println(thrown);
            return true;
        }
    }
}
