/** back, told, digest. */
public final class Promises21To23Test {
    private static final Check check = new Check("promises 21 to 23");

    public static void main(String[] args) {
        backStepByStep();
        sixAtMost();
        allComesBack();
        whatStays();
        whichCallsLeaveOne();
        told();
        digest();
        check.finish();
    }

    private static void backStepByStep() {
        LateLines x = new LateLines();
        check.due("back()", x.back(), -3);
        x.load(0, 0);
        x.load(1, 0);
        check.due("often(7)", x.often(7), 2);
        check.due("back()", x.back(), 1);
        check.due("often(7)", x.often(7), 1);
        check.due("where(1)", x.where(1), 0);
        check.due("where(0)", x.where(0), 3);
        check.due("back()", x.back(), 0);
        check.due("where(0)", x.where(0), 0);
        check.due("back()", x.back(), -3);
        check.due("told(1)", x.told(1), 2);
    }

    private static void sixAtMost() {
        LateLines x = new LateLines();
        for (int i = 1; i <= 9; i++) {
            x.ticks(i);
            check.due("told(9)", x.told(9), Math.min(i, 6));
        }
        int ticks = 45;
        for (int i = 5; i >= 0; i--) {
            check.due("back()", x.back(), i);
            ticks -= 4 + i;
            check.due("often(9)", x.often(9), ticks);
        }
        check.due("back()", x.back(), -3);
        check.due("often(9)", x.often(9), 6);
        x.ticks(50);
        x.ticks(7);
        check.due("back()", x.back(), 1);
        check.due("often(9)", x.often(9), 56);
    }

    /** All answers, in one number that is not digest()'s own. */
    private static long allAnswers(LateLines x) {
        long h = 1;
        for (int k = 0; k < 210; k++) {
            for (int what = 0; what < 3; what++) {
                h = h * 37 + x.got(k, what);
            }
        }
        for (int i = 0; i < 16; i++) {
            h = h * 37 + x.where(i);
            for (int j = 0; j < 12; j++) {
                h = h * 37 + x.item(i, j / 3, j % 3);
            }
        }
        for (int i = 0; i < 12; i++) {
            h = h * 37 + x.place(i / 3, i % 3);
            h = h * 37 + x.fetch(i / 3, i % 3);
        }
        for (int i = 0; i < 10; i++) {
            h = h * 37 + x.often(i);
        }
        for (int i = 4; i < 9; i++) {
            h = h * 37 + x.told(i);
        }
        for (int i = 0; i < 3; i++) {
            h = h * 37 + x.cost(i);
        }
        return h * 37 + x.even();
    }

    private static void allComesBack() {
        LateLines x = new LateLines();
        long[] was = new long[6];
        x.sets(0, 3);
        x.sets(1, 2);
        x.draw(31, 40);
        x.draw(77, 40);
        x.draw(78, 40);
        x.draw(79, 40);
        was[0] = allAnswers(x);
        x.store(0, 0, 12);
        was[1] = allAnswers(x);
        x.load(4, 1);
        was[2] = allAnswers(x);
        x.draw(9, 40);
        was[3] = allAnswers(x);
        x.fence();
        was[4] = allAnswers(x);
        x.sets(4, 13);
        was[5] = allAnswers(x);
        x.draw(3, 40);
        for (int i = 5; i >= 0; i--) {
            check.due("back()", x.back(), i);
            check.due("all answers, " + i + " left", allAnswers(x), was[i]);
        }
        x.load(4, 1);
        x.load(4, 1);
        long later = allAnswers(x);
        x.back();
        x.back();
        x.load(4, 1);
        x.load(4, 1);
        check.due("all answers, done again", allAnswers(x), later);
    }

    private static void whatStays() {
        LateLines x = new LateLines();
        check.text(x, "a0;");
        x.ticks(5);
        x.load(16, 0);
        x.type(';');
        check.due("back()", x.back(), 0);
        check.due("told(0)", x.told(0), 1);
        check.due("told(3)", x.told(3), 4);
        check.due("often(9)", x.often(9), 0);
    }

    private static void whichCallsLeaveOne() {
        LateLines x = new LateLines();
        int[] left = new int[20];
        int n = 0;
        x.clear();
        left[n++] = x.told(9);
        x.type('#');
        x.type('0');
        x.type(';');
        left[n++] = x.told(9);
        x.best(0);
        left[n++] = x.told(9);
        x.digest();
        left[n++] = x.told(9);
        for (int i = 0; i < n; i++) {
            check.due("a call that leaves none", left[i], 0);
        }
        x.sets(2, 2);
        check.due("sets leaves one", x.told(9), 1);
        x.anew();
        check.due("anew leaves one", x.told(9), 2);
        x.load(0, 0);
        check.due("load leaves one", x.told(9), 3);
        x.store(0, 0, 0);
        check.due("store leaves one", x.told(9), 4);
        x.fence();
        check.due("fence leaves one", x.told(9), 5);
        x.back();
        x.ticks(0);
        check.due("ticks leaves one", x.told(9), 5);
        x.back();
        x.draw(0, 1);
        check.due("draw leaves one", x.told(9), 5);
        x.back();
        x.runs();
        check.due("runs leaves one", x.told(9), 5);
        x.sets(9, 9);
        x.load(99, 0);
        x.store(0, 0, 100);
        x.ticks(100);
        x.draw(-1, 1);
        x.type(';');
        x.runs();
        check.due("what is refused leaves none", x.told(9), 5);
    }

    private static void told() {
        LateLines x = new LateLines();
        check.due("told(-1)", x.told(-1), -2);
        check.due("told(10)", x.told(10), -2);
        check.due("told(MIN)", x.told(Integer.MIN_VALUE), -2);
        check.due("told(MAX)", x.told(Integer.MAX_VALUE), -2);
        check.due("told(0)", x.told(0), 4);
        x.back();
        x.back();
        check.due("told(1)", x.told(1), 2);
        for (int i = 0; i < 123; i++) {
            x.type(32);
        }
        check.due("told(2)", x.told(2), 3);
        check.due("told(3)", x.told(3), 120);
        x.sets(0, 3);
        x.sets(1, 0);
        x.sets(2, 4);
        x.sets(3, 1);
        x.sets(4, 17);
        int[] want = {4, 2, 3, 120, 3, 0, 4, 1, 17, 5};
        for (int i = 0; i < 10; i++) {
            check.due("told(" + i + ")", x.told(i), want[i]);
        }
        for (int i = 5; i > 0; i--) {
            x.back();
        }
        int[] first = {4, 2, 3, 120, 2, 1, 2, 2, 6, 0};
        for (int i = 0; i < 10; i++) {
            check.due("told(" + i + ")", x.told(i), first[i]);
        }
    }

    private static long digestOf(LateLines x) {
        long h = 2087;
        for (int i = 0; i < 10; i++) {
            h = 31 * h + x.told(i);
        }
        for (int i = 0; i < 10; i++) {
            h = 31 * h + x.often(i);
        }
        for (int i = 0; i < 64; i++) {
            h = 31 * h + x.item(i / 4, i % 4, 0);
        }
        for (int i = 0; i < 16; i++) {
            h = 31 * h + x.where(i);
        }
        h = 31 * h + x.cost(0);
        h = 31 * h + x.cost(1);
        return 31 * h + x.even();
    }

    private static void digest() {
        LateLines x = new LateLines();
        check.due("digest() of a new object", x.digest(), digestOf(x));
        x.load(-1, 0);
        x.back();
        check.text(x, "a0;e1=3;");
        check.due("digest()", x.digest(), digestOf(x));
        x.sets(0, 1);
        x.runs();
        for (int seed = 0; seed < 9; seed++) {
            x.draw(seed, 23);
            check.due("digest()", x.digest(), digestOf(x));
        }
        check.due("told(0)", x.told(0), 1);
    }
}
