/** cost, even, best. */
public final class Promises15To17Test {
    private static final Check check = new Check("promises 15 to 17");

    public static void main(String[] args) {
        costStepByStep();
        costOfBackAndFar();
        waits();
        manyWaits();
        best();
        bestStartsAnew();
        bestRefuses();
        check.finish();
    }

    private static void costIs(LateLines x, float want) {
        check.due("cost(0) at TICK " + x.often(9), x.cost(0), Float.floatToIntBits(want));
    }

    private static void costStepByStep() {
        LateLines x = new LateLines();
        float c = 0f;
        costIs(x, c);
        x.load(0, 0);
        c += 4.75f;
        costIs(x, c);
        x.load(0, 1);
        c += 0.25f;
        costIs(x, c);
        x.load(0, 2);
        for (int i = 0; i < 4; i++) {
            c += 0.1f;
        }
        c += 1.5f;
        costIs(x, c);
        x.ticks(20);
        costIs(x, c);
        x.fence();
        costIs(x, c);
        x.load(3, 0);
        c += 4.75f;
        x.fence();
        for (int i = 0; i < 5; i++) {
            c += 0.1f;
        }
        costIs(x, c);
        x.anew();
        costIs(x, 0f);
    }

    private static void costOfBackAndFar() {
        LateLines x = new LateLines();
        x.sets(0, 1);
        x.store(0, 0, 5);
        x.load(4, 0);
        x.ticks(6);
        float c = 4.75f + 4.75f;
        costIs(x, c);
        x.store(0, 0, 6);
        c += 2.125f;
        costIs(x, c);
        x.load(4, 1);
        c += 4.75f;
        x.fence();
        for (int i = 0; i < 6; i++) {
            c += 0.1f;
        }
        c += 0.1f;
        c += 0.1f;
        c += 3.3f;
        costIs(x, c);
        LateLines y = new LateLines();
        y.sets(1, 0);
        y.sets(0, 1);
        y.store(0, 0, 5);
        y.store(4, 0, 6);
        y.ticks(5);
        y.fence();
        costIs(y, 4.75f + 4.75f + 3.3f);
    }

    private static void waits() {
        LateLines x = new LateLines();
        x.store(0, 0, 1);
        x.load(0, 0);
        x.ticks(4);
        check.due("cost(1): none", x.cost(1), 0);
        check.due("cost(2): none", x.cost(2), 0);
        check.due("even(): none", x.even(), 0);
        x.ticks(1);
        check.due("cost(1)", x.cost(1), Float.floatToIntBits(5f));
        check.due("cost(2)", x.cost(2), Float.floatToIntBits(5f));
        check.due("even()", x.even(), 0);
        x.load(0, 0);
        x.load(0, 0);
        check.due("cost(1)", x.cost(1), Float.floatToIntBits(5f / 3f));
        check.due("cost(2)", x.cost(2), Float.floatToIntBits(5f));
        double mean = 5.0 / 3.0;
        check.due("even()", x.even(), Double.doubleToLongBits(25.0 / 3.0 - mean * mean));
        for (int w : new int[] {-1, 3, 100, Integer.MIN_VALUE, Integer.MAX_VALUE}) {
            check.due("cost(" + w + ")", x.cost(w), -2);
        }
        check.due("told(0)", x.told(0), 5);
    }

    /** Bits of many values, above and below 1, against the library's. */
    private static void manyWaits() {
        for (int l = 1; l <= 20; l++) {
            LateLines x = new LateLines();
            x.sets(4, l);
            int n = 0;
            long sum = 0;
            long squares = 0;
            for (int i = 0; i < 30; i++) {
                x.load(i % 2 == 0 ? i % 16 : (i + 4) % 16, 0);
                x.ticks(l);
                n = x.often(8);
                int wait = x.got(n - 1, 1);
                sum += wait;
                squares += wait * wait;
                check.due("cost(1)", x.cost(1), Float.floatToIntBits((float) sum / (float) n));
                double mean = (double) sum / (double) n;
                check.due("even()", x.even(), Double.doubleToLongBits((double) squares / (double) n - mean * mean));
            }
            check.due("cost(2)", x.cost(2), Float.floatToIntBits((float) l));
        }
    }

    private static void bestIs(LateLines x, String text, int which, int ticks) {
        check.text(x, text);
        check.due("best(0) of " + text, x.best(0), which);
        check.due("best(1) of " + text, x.best(1), ticks);
    }

    private static void best() {
        LateLines x = new LateLines();
        bestIs(x, "a0;b0;c0;d0;", 4, 10);
        bestIs(x, "a0;b0;c0;", 3, 9);
        bestIs(x, "a0;b0;", 2, 8);
        bestIs(x, "a0;", 1, 7);
        bestIs(x, "!;", 1, 1);
        bestIs(x, "#5;", 1, 5);
        bestIs(x, "#0;", 1, 0);
        bestIs(x, "a0;!;b0;!;", 1, 14);
        bestIs(x, "a0=1;#2;", 1, 7);
        x.sets(4, 1);
        bestIs(x, "a0;b0;c0;d0;", 1, 5);
        x.sets(4, 20);
        x.sets(3, 1);
        bestIs(x, "a0;a1;", 1, 21);
        bestIs(x, "a0;a1;b0;", 1, 42);
    }

    private static void bestStartsAnew() {
        LateLines x = new LateLines();
        x.sets(2, 3);
        x.load(0, 0);
        x.load(1, 0);
        x.store(2, 0, 99);
        x.load(3, 3);
        x.load(0, 0);
        check.text(x, "a0;b0;c0;d0;");
        long before = x.digest();
        check.due("best(0)", x.best(0), 4);
        check.due("best(1)", x.best(1), 10);
        check.due("digest()", x.digest(), before);
        check.due("told(6)", x.told(6), 3);
        check.due("told(9)", x.told(9), 6);
        check.due("fetch(0, 0)", x.fetch(0, 0), 2);
        check.due("got(0, 0)", x.got(0, 0), 0);
    }

    private static void bestRefuses() {
        LateLines x = new LateLines();
        check.due("best(2)", x.best(2), -2);
        check.due("best(-1)", x.best(-1), -2);
        check.due("best(MAX)", x.best(Integer.MAX_VALUE), -2);
        check.due("best(0) of no text", x.best(0), -10);
        check.text(x, "a0;b4;");
        check.due("best(0) of a FAULT", x.best(0), -14);
        check.due("best(1) of a FAULT", x.best(1), -14);
        check.text(x, "a0;b");
        check.due("best(1) of too short a text", x.best(1), -14);
        check.due("told(0)", x.told(0), 3);
    }
}
