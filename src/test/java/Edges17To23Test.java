import java.math.BigInteger;

/** Promises 17 to 23: for each sentence that names a boundary case, a test of its own. */
public final class Edges17To23Test {
    private static final Check check = new Check("edges of promises 17 to 23");
    private static final Refusals refusals = new Refusals(check);

    public static void main(String[] args) {
        bestRefuses();
        bestLessTheFault();
        bestOfLikeOnesTheLeast();
        bestOfEachF();
        bestUntilNoFetchesAreLeft();
        bestOfNoTicks();
        bestFromAnew();
        bestAllStays();
        bestLongestText();
        typeRefuses();
        typeLeastAndGreatest();
        typeFull();
        clearEmptyAndFull();
        runsLessTheFault();
        runsOfNoTicks();
        runsLongest();
        runsTwice();
        backNone();
        backToTheFirst();
        backAllAtOnce();
        toldRefuses();
        toldEach();
        digestAsTold();
        digestWrapsAround();
        digestChangesNothing();
        check.finish();
    }

    private static LateLines withText(String text) {
        LateLines x = new LateLines();
        check.text(x, text);
        return x;
    }

    private static void bestIs(LateLines x, String text, int which, int ticks) {
        check.text(x, text);
        check.due("best(0) of " + text, x.best(0), which);
        check.due("best(1) of " + text, x.best(1), ticks);
    }

    private static void bestRefuses() {
        check.of("Promise 17: BAD");
        refusals.beyond("best(what)", 0, 1, (x, v) -> x.best(v));
        LateLines x = withText("x");
        check.due("best(2) of a FAULT", x.best(2), -2);
        check.due("best(-1) of a FAULT", x.best(-1), -2);
        check.due("told(0)", x.told(0), 2);
    }

    private static void bestLessTheFault() {
        check.of("Promise 17: -10 less the FAULT");
        check.due("of an empty TEXT", new LateLines().best(0), -10);
        check.due("of an empty TEXT", new LateLines().best(1), -10);
        check.due("at place 0", withText("x").best(0), -10);
        check.due("at the last place", withText("!;".repeat(59) + "!!").best(1), -129);
        check.due("behind the last place", withText("!;".repeat(59) + "#1").best(0), -130);
        LateLines x = withText("a0;x");
        check.due("best(0)", x.best(0), -13);
        check.due("told(0)", x.told(0), 0);
    }

    private static void bestOfLikeOnesTheLeast() {
        check.of("Promise 17: of like ones the least");
        LateLines x = new LateLines();
        bestIs(x, "!;", 1, 1);
        bestIs(x, "a0;", 1, 7);
        bestIs(x, "a0;a1;", 1, 7);
        bestIs(x, "a0;b0;", 2, 8);
        bestIs(x, "a0;!;b0;!;c0;", 1, 21);
    }

    private static void bestOfEachF() {
        check.of("Promise 17: The F (1 .. 4) by which the run would have fewest TICKS");
        LateLines x = new LateLines();
        bestIs(x, "a0;", 1, 7);
        bestIs(x, "a0;b0;", 2, 8);
        bestIs(x, "a0;b0;c0;", 3, 9);
        bestIs(x, "a0;b0;c0;d0;", 4, 10);
        bestIs(x, "a0;b0;c0;d0;e0;", 4, 13);
        x.sets(4, 3);
        bestIs(x, "a0;b0;c0;d0;e0;", 3, 8);
        x.sets(4, 2);
        bestIs(x, "a0;b0;c0;d0;e0;", 2, 7);
        x.sets(4, 1);
        bestIs(x, "a0;b0;c0;d0;e0;", 1, 6);
        x.sets(4, 20);
        bestIs(x, "a0;b0;c0;d0;e0;", 4, 41);
    }

    private static void bestUntilNoFetchesAreLeft() {
        check.of("Promise 17: until all that it has is begun and no FETCHES are left");
        LateLines x = new LateLines();
        x.sets(0, 1);
        bestIs(x, "a0=1;#3;", 1, 7);
        bestIs(x, "a0=1;#6;", 1, 7);
        bestIs(x, "a0=1;#7;", 1, 8);
        bestIs(x, "a0=1;#6;e0;", 1, 14);
        bestIs(x, "a0=1;e0;", 2, 8);
        bestIs(x, "a0=1;e0;!;", 2, 11);
    }

    private static void bestOfNoTicks() {
        check.of("Promise 17: how many TICKS: none");
        LateLines x = new LateLines();
        bestIs(x, "#0;", 1, 0);
        bestIs(x, "#0;#00;", 1, 0);
        bestIs(x, "#1;", 1, 1);
    }

    private static void bestFromAnew() {
        check.of("Promise 17: from as it is by anew(), PLACES, S, T, LONG as they are");
        LateLines x = new LateLines();
        x.sets(0, 1);
        x.sets(1, 3);
        x.sets(2, 4);
        x.sets(3, 1);
        x.sets(4, 7);
        x.store(0, 0, 99);
        x.load(4, 0);
        x.load(2, 0);
        bestIs(x, "a0;", 1, 8);
        bestIs(x, "a0;a1;", 1, 8);
        bestIs(x, "a0;a1;b0;", 1, 16);
        x.sets(3, 2);
        bestIs(x, "a0;a1;b0;", 2, 10);
        check.text(x, "a0=1;e0;a0;e0=2;i0;!;");
        int[] places = {3, 2, 1, 3};
        int[] shelf = {0, 3, 1, 1};
        for (int i = 0; i < 4; i++) {
            x.sets(0, places[i]);
            x.sets(1, shelf[i]);
            int which = 0;
            int fewest = Integer.MAX_VALUE;
            for (int f = 1; f <= 4; f++) {
                LateLines y = withText("a0=1;e0;a0;e0=2;i0;!;");
                y.sets(0, places[i]);
                y.sets(1, shelf[i]);
                y.sets(2, f);
                y.sets(4, 7);
                int ticks = y.runs();
                which = ticks < fewest ? f : which;
                fewest = Math.min(ticks, fewest);
            }
            check.due("best(0) with PLACES " + places[i], x.best(0), which);
            check.due("best(1) with PLACES " + places[i], x.best(1), fewest);
        }
    }

    private static void bestAllStays() {
        check.of("Promise 17: All stays");
        LateLines x = Refusals.busy();
        LateLines y = Refusals.busy();
        x.best(0);
        x.best(1);
        check.due("all stays", Picture.of(x).equals(Picture.of(y)) ? 1 : 0, 1);
        for (int i = 5; i >= 0; i--) {
            check.due("back()", x.back(), i);
            y.back();
            check.due("digest()", x.digest(), y.digest());
        }
    }

    private static void bestLongestText() {
        check.of("Promise 17: of a TEXT of 120 bytes");
        bestIs(new LateLines(), "!;".repeat(60), 1, 60);
        bestIs(new LateLines(), "#99;".repeat(30), 1, 2970);
        LateLines x = new LateLines();
        x.sets(3, 1);
        x.sets(0, 1);
        x.sets(4, 20);
        bestIs(x, "a0;e0;i0;m0;".repeat(10), 4, 139);
    }

    private static void typeRefuses() {
        check.of("Promise 18: BAD");
        refusals.beyond("type(c)", 0, 127, (x, v) -> x.type(v));
    }

    private static void typeLeastAndGreatest() {
        check.of("Promise 18: A byte (0 .. 127) comes behind THE TEXT: how many it has");
        LateLines x = new LateLines();
        check.due("type(0)", x.type(0), 1);
        check.due("type(127)", x.type(127), 2);
        check.due("told(3)", x.told(3), 2);
        check.due("runs()", x.runs(), -10);
        for (int c = 0; c < 120; c++) {
            LateLines y = new LateLines();
            check.due("type(" + c + ")", y.type(c), 1);
        }
    }

    private static void typeFull() {
        check.of("Promise 18: FULL: 120");
        LateLines x = withText("!;".repeat(59) + "!");
        check.due("the 120th", x.type(';'), 120);
        check.due("the 121st", x.type('x'), -4);
        check.due("the 121st again", x.type(0), -4);
        check.due("told(2)", x.told(2), 2);
        check.due("told(0)", x.told(0), 0);
        check.due("told(3)", x.told(3), 120);
        check.due("what was typed stays", x.runs(), 60);
        x.clear();
        check.due("room anew", x.type('x'), 1);
        check.due("told(2)", x.told(2), 2);
        LateLines y = withText("!;".repeat(60));
        LateLines z = withText("!;".repeat(60));
        y.type(33);
        check.due("all else stays", Picture.of(y).equals(Picture.of(z)) ? 1 : 0, 1);
    }

    private static void clearEmptyAndFull() {
        check.of("Promise 19: THE TEXT is empty: how many it had");
        LateLines x = new LateLines();
        check.due("clear() of none", x.clear(), 0);
        x.type('!');
        check.due("clear() of one", x.clear(), 1);
        check.due("clear() of none", x.clear(), 0);
        check.due("told(3)", x.told(3), 0);
        check.due("runs()", x.runs(), -10);
        check.text(x, "!;".repeat(60));
        x.type('!');
        check.due("clear() of 120", x.clear(), 120);
        check.due("told(3)", x.told(3), 0);
        check.text(x, "#4;");
        check.due("nothing of the old TEXT is left", x.runs(), 4);
    }

    private static void runsLessTheFault() {
        check.of("Promise 20: -10 less the FAULT");
        check.due("of an empty TEXT", new LateLines().runs(), -10);
        check.due("at place 0", withText("x").runs(), -10);
        check.due("at place 1", withText("!x").runs(), -11);
        check.due("at the last place", withText("!;".repeat(59) + "!!").runs(), -129);
        check.due("behind the last place", withText("!;".repeat(59) + "#1").runs(), -130);
        LateLines x = withText("#5;x");
        check.due("runs()", x.runs(), -13);
        check.due("often(9)", x.often(9), 0);
        check.due("told(9)", x.told(9), 0);
        check.due("told(0)", x.told(0), 0);
    }

    private static void runsOfNoTicks() {
        check.of("Promise 20: TICKS that went by: none");
        LateLines x = withText("#0;");
        x.ticks(9);
        check.due("runs()", x.runs(), 0);
        check.due("often(9)", x.often(9), 9);
        check.due("told(9)", x.told(9), 2);
        check.due("back()", x.back(), 1);
        check.due("often(9)", x.often(9), 9);
    }

    private static void runsLongest() {
        check.of("Promise 20: a TEXT of 120 bytes");
        check.due("60 FENCES", withText("!;".repeat(60)).runs(), 60);
        check.due("30 times 99", withText("#99;".repeat(30)).runs(), 2970);
        LateLines x = withText("a0;b1;c2;d3;".repeat(10));
        check.due("40 LOADS", x.runs(), 44);
        check.due("often(7)", x.often(7), 40);
        LateLines y = withText("p3=99;".repeat(20));
        check.due("20 STORES", y.runs(), 24);
        check.due("often(0)", y.often(0), 18);
        check.due("item(15, 3, 1)", y.item(15, 3, 1), 99);
    }

    private static void runsTwice() {
        check.of("Promise 20: A run goes on from where all is");
        LateLines x = withText("a0;#1;");
        x.ticks(10);
        check.due("runs()", x.runs(), 2);
        check.due("runs()", x.runs(), 2);
        check.due("a JOIN", x.often(1), 1);
        check.due("runs(): behind STALLS", x.runs(), 4);
        check.due("often(9)", x.often(9), 18);
        check.due("told(3)", x.told(3), 6);
    }

    private static void backNone() {
        check.of("Promise 21: NO: none");
        LateLines x = new LateLines();
        check.due("back()", x.back(), -3);
        check.due("told(1)", x.told(1), 1);
        x.ticks(1);
        check.due("back()", x.back(), 0);
        check.due("back()", x.back(), -3);
        check.due("told(1)", x.told(1), 2);
        check.due("told(0)", x.told(0), 0);
        check.due("told(9)", x.told(9), 0);
        LateLines y = Refusals.busy();
        LateLines z = Refusals.busy();
        for (int i = 5; i >= 0; i--) {
            check.due("back()", y.back(), i);
            z.back();
        }
        check.due("back() of none", y.back(), -3);
        check.due("all stays", Picture.of(y).equals(Picture.of(z)) ? 1 : 0, 1);
    }

    private static void backToTheFirst() {
        check.of("Promise 21: A STATE back: how many can be yet");
        LateLines x = new LateLines();
        x.sets(0, 3);
        x.sets(4, 1);
        x.draw(1, 40);
        x.anew();
        x.runs();
        x.fence();
        x.ticks(99);
        for (int i = 4; i >= 0; i--) {
            check.due("back()", x.back(), i + 1);
        }
        check.due("back() to the first", x.back(), 0);
        String same = Picture.of(new LateLines());
        check.due("as a new object", Picture.of(x).equals(same) ? 1 : 0, 1);
    }

    private static void backAllAtOnce() {
        check.of("Promise 21: A STATE back: all but how often was refused, THE TEXT");
        for (int n = 1; n <= 6; n++) {
            LateLines x = Refusals.busy();
            LateLines y = Refusals.busy();
            for (int i = 0; i < n; i++) {
                x.draw(i, 40);
            }
            for (int i = 0; i < n; i++) {
                check.due("back()", x.back(), 5 - i);
            }
            check.due("as before", Picture.ofTheStore(x).equals(Picture.ofTheStore(y)) ? 1 : 0, 1);
            check.due("what follows is the same", x.draw(9, 40), y.draw(9, 40));
        }
    }

    private static void toldRefuses() {
        check.of("Promise 22: BAD");
        refusals.beyond("told(what)", 0, 9, (x, v) -> x.told(v));
    }

    private static void toldEach() {
        check.of("Promise 22: How often refused: BAD (0), NO (1), FULL (2); bytes of THE TEXT (3), PLACES (4) .. STATES (9)");
        LateLines x = new LateLines();
        x.sets(0, 3);
        x.sets(1, 0);
        x.sets(2, 4);
        x.sets(3, 1);
        x.sets(4, 20);
        for (int i = 0; i < 122; i++) {
            x.type('!');
        }
        x.type(128);
        x.best(2);
        x.told(10);
        for (int i = 0; i < 5; i++) {
            x.back();
        }
        check.due("back()", x.back(), -3);
        x.sets(2, 3);
        int[] want = {3, 1, 2, 120, 2, 1, 3, 2, 6, 1};
        for (int i = 0; i < 10; i++) {
            check.due("told(" + i + ")", x.told(i), want[i]);
        }
    }

    /** With numbers that know no wrap-around, cut to 64 bits at the end. */
    private static long digestOf(LateLines x) {
        BigInteger h = BigInteger.valueOf(2087);
        for (int i = 0; i < 10; i++) {
            h = next(h, x.told(i));
        }
        for (int i = 0; i < 10; i++) {
            h = next(h, x.often(i));
        }
        for (int i = 0; i < 64; i++) {
            h = next(h, x.item(i / 4, i % 4, 0));
        }
        for (int b = 0; b < 16; b++) {
            h = next(h, x.where(b));
        }
        return next(next(next(h, x.cost(0)), x.cost(1)), x.even()).longValue();
    }

    private static BigInteger next(BigInteger h, long v) {
        return h.multiply(BigInteger.valueOf(31)).add(BigInteger.valueOf(v));
    }

    private static void digestAsTold() {
        check.of("Promise 23: h = 2087; then h = 31 h + v for each v");
        LateLines x = new LateLines();
        check.due("digest() of a new object", x.digest(), digestOf(x));
        for (int i = 0; i < 3; i++) {
            x.load(16, 0);
            x.back();
            x.type('a');
            check.due("digest() behind refusals", x.digest(), digestOf(x));
        }
    }

    private static void digestWrapsAround() {
        check.of("Promise 23: h = 31 h + v, a long that wraps around");
        int below = 0;
        for (int seed = 0; seed < 40; seed++) {
            LateLines x = new LateLines();
            x.sets(0, 1 + seed % 3);
            x.draw(seed, 40);
            long h = x.digest();
            below += h < 0 ? 1 : 0;
            check.due("digest() behind draw(" + seed + ", 40)", h, digestOf(x));
        }
        check.due("some are below 0, some are not", below > 0 && below < 40 ? 1 : 0, 1);
    }

    private static void digestChangesNothing() {
        check.of("Promise 23: it tells alone");
        LateLines x = Refusals.busy();
        LateLines y = Refusals.busy();
        long h = x.digest();
        check.due("digest()", x.digest(), h);
        check.due("all stays", Picture.of(x).equals(Picture.of(y)) ? 1 : 0, 1);
        check.due("told(0)", x.told(0), 0);
    }
}
