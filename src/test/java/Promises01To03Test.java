/** A new object, sets, anew. */
public final class Promises01To03Test {
    private static final Check check = new Check("promises 1 to 3");
    private static final int[] FIRST = {2, 1, 2, 2, 6};
    private static final int[] LEAST = {1, 0, 1, 1, 1};
    private static final int[] GREATEST = {3, 3, 4, 4, 20};

    public static void main(String[] args) {
        aNewObject();
        setsAnswersWhatItWas();
        setsRefuses();
        setsMakesAllAsByAnew();
        anewKeepsWhatIsSet();
        check.finish();
    }

    private static void asAtFirst(String when, LateLines x) {
        for (int i = 0; i < 10; i++) {
            check.due(when + ": often(" + i + ")", x.often(i), 0);
        }
        for (int b = 0; b < 16; b++) {
            check.due(when + ": where(" + b + ")", x.where(b), 0);
            for (int j = 0; j < 4; j++) {
                check.due(when + ": item(" + b + ", " + j + ", 0)", x.item(b, j, 0), 5 * b + j);
                check.due(when + ": item(" + b + ", " + j + ", 1)", x.item(b, j, 1), 5 * b + j);
                check.due(when + ": item(" + b + ", " + j + ", 2)", x.item(b, j, 2), 0);
            }
        }
        for (int r = 0; r < 4; r++) {
            for (int k = 0; k < 3; k++) {
                check.due(when + ": place(" + r + ", " + k + ")", x.place(r, k), -1);
            }
        }
        for (int what = 0; what < 3; what++) {
            check.due(when + ": fetch(0, " + what + ")", x.fetch(0, what), -1);
            check.due(when + ": got(0, " + what + ")", x.got(0, what), -1);
            check.due(when + ": cost(" + what + ")", x.cost(what), 0);
        }
        check.due(when + ": even()", x.even(), 0L);
    }

    private static void aNewObject() {
        LateLines x = new LateLines();
        asAtFirst("new", x);
        int[] told = {0, 0, 0, 0, 2, 1, 2, 2, 6, 0};
        for (int i = 0; i < told.length; i++) {
            check.due("told(" + i + ")", x.told(i), told[i]);
        }
        check.due("NONE", LateLines.NONE, -1);
        check.due("BAD", LateLines.BAD, -2);
        check.due("NO", LateLines.NO, -3);
        check.due("FULL", LateLines.FULL, -4);
        check.due("back()", x.back(), -3);
        LateLines other = new LateLines();
        other.store(0, 0, 99);
        check.due("an object of its own: item(0, 0, 1)", x.item(0, 0, 1), 0);
    }

    private static void setsAnswersWhatItWas() {
        LateLines x = new LateLines();
        for (int what = 0; what < 5; what++) {
            int was = FIRST[what];
            for (int v = LEAST[what]; v <= GREATEST[what]; v++) {
                check.due("sets(" + what + ", " + v + ")", x.sets(what, v), was);
                check.due("told(" + (4 + what) + ")", x.told(4 + what), v);
                was = v;
            }
        }
    }

    private static void setsRefuses() {
        LateLines x = new LateLines();
        x.load(0, 0);
        int refused = 0;
        int[] far = {-1000000, Integer.MIN_VALUE, Integer.MAX_VALUE, 1000};
        for (int what = 0; what < 5; what++) {
            check.due("sets(" + what + ", too little)", x.sets(what, LEAST[what] - 1), -2);
            check.due("sets(" + what + ", too much)", x.sets(what, GREATEST[what] + 1), -2);
            refused += 2;
            for (int v : far) {
                check.due("sets(" + what + ", " + v + ")", x.sets(what, v), -2);
                check.due("sets(" + v + ", 1)", x.sets(v, 1), -2);
                refused += 2;
            }
        }
        check.due("sets(-1, 1)", x.sets(-1, 1), -2);
        check.due("sets(5, 1)", x.sets(5, 1), -2);
        check.due("told(0)", x.told(0), refused + 2);
        check.due("told(9)", x.told(9), 1);
        check.due("often(9)", x.often(9), 1);
        for (int what = 0; what < 5; what++) {
            check.due("told(" + (4 + what) + ")", x.told(4 + what), FIRST[what]);
        }
    }

    private static void busy(LateLines x) {
        x.store(0, 0, 90);
        x.store(4, 1, 91);
        x.load(8, 2);
        x.ticks(9);
        x.load(12, 3);
        x.load(3, 3);
    }

    private static void setsMakesAllAsByAnew() {
        for (int what = 0; what < 5; what++) {
            LateLines x = new LateLines();
            busy(x);
            check.text(x, "a0;");
            x.load(-1, 0);
            x.sets(what, FIRST[what]);
            asAtFirst("after sets", x);
            check.due("told(0)", x.told(0), 1);
            check.due("told(3)", x.told(3), 3);
            check.due("told(9)", x.told(9), 6);
            check.due("back()", x.back(), 5);
            check.due("often(7) after back()", x.often(7), 3);
        }
    }

    private static void anewKeepsWhatIsSet() {
        LateLines x = new LateLines();
        check.due("anew()", x.anew(), 0);
        for (int what = 0; what < 5; what++) {
            x.sets(what, GREATEST[what]);
        }
        check.text(x, "a0;!");
        x.got(-1, 0);
        busy(x);
        int gone = x.often(9);
        check.due("anew()", x.anew(), gone);
        check.due("anew()", x.anew(), 0);
        asAtFirst("after anew", x);
        for (int what = 0; what < 5; what++) {
            check.due("told(" + (4 + what) + ")", x.told(4 + what), GREATEST[what]);
        }
        check.due("told(0)", x.told(0), 1);
        check.due("told(3)", x.told(3), 4);
        check.due("told(9)", x.told(9), 6);
        check.due("load(0, 0)", x.load(0, 0), 1);
    }
}
