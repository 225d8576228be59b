import java.math.BigInteger;

/** Promises 1 to 8: for each sentence that names a boundary case, a test of its own. */
public final class Edges01To08Test {
    private static final Check check = new Check("edges of promises 1 to 8");
    private static final Refusals refusals = new Refusals(check);

    private static final int[] LEAST = {1, 0, 1, 1, 1};
    private static final int[] GREATEST = {3, 3, 4, 4, 20};
    private static final int[] FIRST = {2, 1, 2, 2, 6};

    public static void main(String[] args) {
        newObjectAsTold();
        setsRefuses();
        setsLeastAndGreatest();
        setsAllElseAsByAnew();
        anewAtOnce();
        anewKeepsWhatStays();
        anewAndOn();
        anewAfterMany();
        loadRefuses();
        loadAtWhichTick();
        storeRefuses();
        storeAtWhichTick();
        fenceAtWhichTick();
        ticksRefuses();
        ticksNoneAndMost();
        ticksOfThoseAlone();
        drawRefuses();
        drawOneAndForty();
        drawLeastAndGreatestSeed();
        drawWrapsAround();
        check.finish();
    }

    private static void newObjectAsTold() {
        check.of("Promise 1: As told");
        LateLines x = new LateLines();
        int[] told = {0, 0, 0, 0, 2, 1, 2, 2, 6, 0};
        for (int i = 0; i < 10; i++) {
            check.due("told(" + i + ")", x.told(i), told[i]);
        }
        for (int b = 0; b < 16; b++) {
            check.due("where(" + b + ")", x.where(b), 0);
            for (int j = 0; j < 4; j++) {
                check.due("item(" + b + ", " + j + ", 0)", x.item(b, j, 0), 5 * b + j);
                check.due("item(" + b + ", " + j + ", 1)", x.item(b, j, 1), 5 * b + j);
                check.due("item(" + b + ", " + j + ", 2)", x.item(b, j, 2), 0);
            }
        }
        check.due("back()", new LateLines().back(), -3);
        check.due("clear()", new LateLines().clear(), 0);
        check.due("runs()", new LateLines().runs(), -10);
        check.due("best(0)", new LateLines().best(0), -10);
        check.due("got(0, 0)", new LateLines().got(0, 0), -1);
        check.due("fetch(0, 0)", new LateLines().fetch(0, 0), -1);
        check.due("place(0, 0)", new LateLines().place(0, 0), -1);
    }

    private static void setsRefuses() {
        check.of("Promise 2: BAD");
        refusals.beyond("sets(what, 1)", 0, 4, (x, v) -> x.sets(v, 1));
        for (int i = 0; i < 5; i++) {
            int what = i;
            refusals.beyond("sets(" + what + ", v)", LEAST[what], GREATEST[what], (x, v) -> x.sets(what, v));
        }
    }

    private static void setsLeastAndGreatest() {
        check.of("Promise 2: PLACES (what 0), S (1), F (2), T (3), LONG (4) become v: what it was");
        for (int what = 0; what < 5; what++) {
            LateLines x = new LateLines();
            check.due("sets(" + what + ", least)", x.sets(what, LEAST[what]), FIRST[what]);
            check.due("sets(" + what + ", greatest)", x.sets(what, GREATEST[what]), LEAST[what]);
            check.due("sets(" + what + ", greatest)", x.sets(what, GREATEST[what]), GREATEST[what]);
            for (int i = 0; i < 5; i++) {
                check.due("told(" + (4 + i) + ")", x.told(4 + i), i == what ? GREATEST[i] : FIRST[i]);
            }
            check.due("told(9)", x.told(9), 3);
        }
    }

    private static void setsAllElseAsByAnew() {
        check.of("Promise 2: all else is as by anew()");
        for (int what = 0; what < 5; what++) {
            LateLines x = Refusals.busy();
            LateLines y = Refusals.busy();
            int was = x.told(4 + what);
            x.load(0, 4);
            y.load(0, 4);
            check.due("sets(" + what + ") to what it was", x.sets(what, was), was);
            y.anew();
            check.due("as by anew()", Picture.of(x).equals(Picture.of(y)) ? 1 : 0, 1);
            check.due("told(0)", x.told(0), 1);
            check.due("told(3)", x.told(3), 5);
            check.due("load(0, 0)", x.load(0, 0), 1);
        }
    }

    private static void anewAtOnce() {
        check.of("Promise 3: TICKS gone by: none");
        LateLines x = new LateLines();
        check.due("anew()", x.anew(), 0);
        check.due("anew()", x.anew(), 0);
        x.ticks(0);
        check.due("anew()", x.anew(), 0);
        check.due("told(9)", x.told(9), 4);
    }

    private static void anewKeepsWhatStays() {
        check.of("Promise 3: all is as at first but PLACES, S, F, T, LONG (THE TEXT, how often refused, STATES stay, too)");
        LateLines x = Refusals.busy();
        x.often(-1);
        for (int i = 0; i < 116; i++) {
            x.type(' ');
        }
        check.due("anew()", x.anew(), 17);
        int[] want = {1, 0, 1, 120, 1, 1, 2, 2, 6, 6};
        for (int i = 0; i < 10; i++) {
            check.due("told(" + i + ")", x.told(i), want[i]);
        }
        LateLines y = new LateLines();
        check.due("all else as at first", Picture.ofTheStore(x).equals(Picture.ofTheStore(y)) ? 1 : 0, 1);
        LateLines z = Refusals.busy();
        z.anew();
        check.due("back()", z.back(), 5);
        check.due("often(9) after back()", z.often(9), 17);
    }

    /** Whatever was before, what follows is as with a new object. */
    private static void anewAndOn() {
        check.of("Promise 3: All is as at first");
        for (int seed = 0; seed < 12; seed++) {
            LateLines x = Refusals.busy();
            x.draw(seed, 40);
            if (seed % 2 == 0) {
                x.anew();
            } else {
                x.sets(0, 1);
            }
            LateLines y = new LateLines();
            y.sets(0, 1);
            for (LateLines z : new LateLines[] {x, y}) {
                check.due("fence()", z.fence(), 1);
                check.due("load(0, 0)", z.load(0, 0), 2);
                check.due("ticks(5)", z.ticks(5), 0);
                check.due("cost(1)", z.cost(1), 0);
                check.due("ticks(1)", z.ticks(1), 1);
                check.due("even()", z.even(), 0L);
                z.load(0, 0);
                z.store(4, 0, 20);
                z.load(9, 1);
                z.load(9, 1);
                check.due("fetch(0, 0)", z.fetch(0, 0), 4);
                z.draw(seed + 3, 40);
            }
            String same = Picture.ofTheStore(y);
            check.due("what follows is the same", Picture.ofTheStore(x).equals(same) ? 1 : 0, 1);
        }
    }

    private static void anewAfterMany() {
        check.of("Promise 3: TICKS gone by, since all was as at first");
        LateLines x = new LateLines();
        for (int i = 0; i < 400; i++) {
            x.ticks(99);
        }
        check.due("anew()", x.anew(), 39600);
        x.ticks(7);
        check.due("anew()", x.anew(), 7);
        x.ticks(8);
        x.sets(4, 1);
        x.ticks(9);
        check.due("anew()", x.anew(), 9);
    }

    private static void loadRefuses() {
        check.of("Promise 4: BAD");
        refusals.beyond("load(box, 0)", 0, 15, (x, v) -> x.load(v, 0));
        refusals.beyond("load(0, item)", 0, 3, (x, v) -> x.load(0, v));
    }

    private static void loadAtWhichTick() {
        check.of("Promise 4: at which TICK it began");
        LateLines x = new LateLines();
        x.sets(2, 1);
        check.due("at once", x.load(0, 0), 1);
        check.due("behind STALLS", x.load(1, 0), 7);
        check.due("told(9)", x.told(9), 3);
        x.ticks(99);
        check.due("behind TICKS", x.load(0, 0), 107);
    }

    private static void storeRefuses() {
        check.of("Promise 5: BAD");
        refusals.beyond("store(box, 0, 0)", 0, 15, (x, v) -> x.store(v, 0, 0));
        refusals.beyond("store(0, item, 0)", 0, 3, (x, v) -> x.store(0, v, 0));
        refusals.beyond("store(0, 0, v)", 0, 99, (x, v) -> x.store(0, 0, v));
    }

    private static void storeAtWhichTick() {
        check.of("Promise 5: at which TICK it began");
        LateLines x = new LateLines();
        x.sets(3, 1);
        check.due("at once", x.store(0, 0, 0), 1);
        check.due("behind STALLS", x.store(0, 0, 99), 7);
        check.due("told(9)", x.told(9), 3);
        check.due("item(0, 0, 1)", x.item(0, 0, 1), 99);
    }

    private static void fenceAtWhichTick() {
        check.of("Promise 6: at which TICK it began");
        LateLines x = new LateLines();
        check.due("at once", x.fence(), 1);
        x.load(0, 0);
        check.due("behind STALLS", x.fence(), 8);
        check.due("told(9)", x.told(9), 3);
    }

    private static void ticksRefuses() {
        check.of("Promise 7: BAD");
        refusals.beyond("ticks(n)", 0, 99, (x, v) -> x.ticks(v));
    }

    private static void ticksNoneAndMost() {
        check.of("Promise 7: n (0 .. 99) TICKS go by");
        for (int n = 0; n <= 99; n++) {
            LateLines x = new LateLines();
            x.load(0, 0);
            check.due("ticks(" + n + ")", x.ticks(n), n < 6 ? 0 : 1);
            check.due("often(9)", x.often(9), n + 1);
            check.due("often(4)", x.often(4), 0);
            check.due("told(9)", x.told(9), 2);
        }
    }

    private static void ticksOfThoseAlone() {
        check.of("Promise 7: LOADS that got their ITEM in them");
        LateLines x = new LateLines();
        x.sets(3, 4);
        x.sets(2, 4);
        check.due("none asked", x.ticks(50), 0);
        x.load(0, 0);
        x.load(0, 1);
        x.store(0, 2, 5);
        x.load(0, 2);
        x.load(1, 2);
        check.due("one TICK too few", x.ticks(1), 0);
        check.due("three of one BOX", x.ticks(1), 3);
        check.due("one TICK too few", x.ticks(3), 0);
        check.due("one of the other", x.ticks(1), 1);
        check.due("none are left", x.ticks(99), 0);
        x.load(0, 0);
        check.due("a HIT got its ITEM before them", x.ticks(9), 0);
        check.due("often(8)", x.often(8), 5);
    }

    private static void drawRefuses() {
        check.of("Promise 8: BAD");
        refusals.beyond("draw(seed, 1)", 0, 999999, (x, v) -> x.draw(v, 1));
        refusals.beyond("draw(0, n)", 1, 40, (x, v) -> x.draw(0, v));
    }

    /** As the document says it, with numbers that know no wrap-around. */
    private static int oneByOne(LateLines x, int seed, int n) {
        BigInteger all = BigInteger.valueOf(2147483648L);
        BigInteger s = BigInteger.valueOf(seed);
        for (int i = 0; i < n; i++) {
            s = s.multiply(BigInteger.valueOf(1103515245L)).add(BigInteger.valueOf(12345L)).mod(all);
            long v = s.longValueExact();
            int box = (int) (v / 65536 % 16);
            int item = (int) (v / 1024 % 4);
            if (v / 32768 % 3 == 0) {
                x.store(box, item, (int) (v / 2048 % 100));
            } else {
                x.load(box, item);
            }
        }
        return x.often(9);
    }

    private static void drawIs(int seed, int n) {
        LateLines x = new LateLines();
        LateLines y = new LateLines();
        check.due("draw(" + seed + ", " + n + ")", x.draw(seed, n), oneByOne(y, seed, n));
        String same = Picture.ofTheStore(y);
        check.due("as one by one", Picture.ofTheStore(x).equals(same) ? 1 : 0, 1);
        check.due("told(9)", x.told(9), 1);
    }

    private static void drawOneAndForty() {
        check.of("Promise 8: n (1 .. 40) LOADS and STORES are done");
        for (int n = 1; n <= 40; n++) {
            drawIs(12, n);
            LateLines x = new LateLines();
            x.draw(12, n);
            check.due("HITS, JOINS, MISSES, BACKS", x.often(0) + x.often(1) + x.often(2) + x.often(3), n);
        }
    }

    private static void drawLeastAndGreatestSeed() {
        check.of("Promise 8: X is SEED (0 .. 999999) at first");
        drawIs(0, 1);
        drawIs(0, 40);
        drawIs(999999, 1);
        drawIs(999999, 40);
        LateLines x = new LateLines();
        check.due("draw(0, 1): X is 12345, BOX 0, ITEM 0, a STORE of 6", x.draw(0, 1), 1);
        check.due("item(0, 0, 1)", x.item(0, 0, 1), 6);
        check.due("often(7)", x.often(7), 0);
    }

    private static void drawWrapsAround() {
        check.of("Promise 8: X times 1103515245 and 12345, by 2147483648 what is left over");
        for (int seed = 1; seed < 1000000; seed += 33331) {
            drawIs(seed, 40);
        }
        LateLines x = new LateLines();
        x.ticks(30);
        x.draw(7, 40);
        LateLines y = new LateLines();
        y.draw(7, 40);
        check.due("TICKS that went by", y.draw(42, 40), 49);
        check.due("X starts anew with each SEED", x.draw(42, 40), 49);
    }
}
