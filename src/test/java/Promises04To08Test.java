/** load, store, fence, ticks, draw: what happens at each TICK, and in which order. */
public final class Promises04To08Test {
    private static final Check check = new Check("promises 4 to 8");

    public static void main(String[] args) {
        hitsAndJoins();
        askersUpToT();
        fetchesUpToF();
        storesLaidInWhenItComes();
        leastLatelyUsedGoes();
        shelfAndBack();
        aShelfOfThree();
        haste();
        half();
        fences();
        shelfBeforeFetches();
        ticksCountLoads();
        drawn();
        refuses();
        check.finish();
    }

    private static void hitsAndJoins() {
        LateLines x = new LateLines();
        check.due("load(0, 1)", x.load(0, 1), 1);
        check.due("load(0, 2)", x.load(0, 2), 2);
        check.due("store(0, 1, 77)", x.store(0, 1, 77), 7);
        check.due("load(0, 1)", x.load(0, 1), 8);
        check.due("store(0, 0, 0)", x.store(0, 0, 0), 9);
        check.due("got(2, 0)", x.got(2, 0), 77);
        check.due("got(2, 1)", x.got(2, 1), 0);
        check.counts("hits and joins", x, 3, 1, 1, 0, 4, 0, 0, 3, 3, 9);
        check.due("told(9)", x.told(9), 5);
    }

    private static void askersUpToT() {
        for (int t = 1; t <= 4; t++) {
            LateLines x = new LateLines();
            x.sets(3, t);
            for (int i = 1; i <= t; i++) {
                check.due("T " + t + ": load " + i, x.load(5, i - 1), i);
            }
            check.due("T " + t + ": the load that stalls", x.load(5, 0), 7);
            check.counts("T " + t, x, 1, t - 1, 1, 0, 6 - t, 0, 0, t + 1, t + 1, 7);
        }
    }

    private static void fetchesUpToF() {
        for (int f = 1; f <= 4; f++) {
            LateLines x = new LateLines();
            x.sets(2, f);
            for (int i = 1; i <= f; i++) {
                check.due("F " + f + ": load " + i, x.load(i, 0), i);
            }
            check.due("F " + f + ": the store that stalls", x.store(9, 0, 1), 7);
            check.counts("F " + f, x, 0, 0, f + 1, 0, 6 - f, 0, 0, f, 1, 7);
        }
    }

    private static void storesLaidInWhenItComes() {
        LateLines x = new LateLines();
        x.sets(3, 4);
        x.load(6, 1);
        x.store(6, 1, 50);
        x.load(6, 1);
        x.store(6, 1, 60);
        check.due("item(6, 1, 0)", x.item(6, 1, 0), 31);
        check.due("item(6, 1, 1)", x.item(6, 1, 1), 60);
        check.due("item(6, 1, 2)", x.item(6, 1, 2), 0);
        check.due("ticks(3)", x.ticks(3), 2);
        check.due("got(0, 0)", x.got(0, 0), 31);
        check.due("got(1, 0)", x.got(1, 0), 50);
        check.due("got(1, 1)", x.got(1, 1), 4);
        check.due("item(6, 1, 0)", x.item(6, 1, 0), 31);
        check.due("item(6, 1, 1)", x.item(6, 1, 1), 60);
        check.due("item(6, 1, 2)", x.item(6, 1, 2), 1);
        check.due("item(6, 0, 2)", x.item(6, 0, 2), 0);
    }

    private static void leastLatelyUsedGoes() {
        LateLines x = new LateLines();
        x.load(2, 0);
        x.load(6, 0);
        x.ticks(10);
        x.load(2, 1);
        x.load(10, 0);
        x.ticks(6);
        check.due("where(2)", x.where(2), 1);
        check.due("where(6)", x.where(6), 0);
        check.due("where(10)", x.where(10), 1);
        check.due("place(2, 0)", x.place(2, 0), 10);
        check.due("place(2, 1)", x.place(2, 1), 2);
        check.due("often(6)", x.often(6), 0);
        LateLines y = new LateLines();
        y.sets(0, 3);
        for (int b = 3; b < 16; b += 4) {
            y.load(b, 0);
            y.ticks(6);
        }
        check.due("PLACES 3: where(3)", y.where(3), 0);
        for (int k = 0; k < 3; k++) {
            check.due("PLACES 3: place(3, " + k + ")", y.place(3, k), 15 - 4 * k);
        }
    }

    /** BOX 0 (changed) is near from TICK 8 on, BOX 4 from TICK 9; one PLACE, LONG 7. */
    private static LateLines oneGoes(int shelf) {
        LateLines x = new LateLines();
        x.sets(0, 1);
        x.sets(1, shelf);
        x.sets(4, 7);
        x.store(0, 0, 50);
        x.load(4, 0);
        check.due("ticks(7)", x.ticks(7), 1);
        return x;
    }

    private static void shelfAndBack() {
        LateLines x = oneGoes(1);
        check.due("where(0)", x.where(0), 2);
        check.due("item(0, 0, 0)", x.item(0, 0, 0), 0);
        check.due("item(0, 0, 1)", x.item(0, 0, 1), 50);
        check.due("item(0, 0, 2)", x.item(0, 0, 2), 1);
        check.due("item(0, 1, 2)", x.item(0, 1, 2), 0);
        x.ticks(2);
        check.due("where(0) at TICK 11", x.where(0), 2);
        x.ticks(1);
        check.due("where(0) at TICK 12", x.where(0), 0);
        check.due("item(0, 0, 0)", x.item(0, 0, 0), 50);
        check.due("item(0, 0, 2)", x.item(0, 0, 2), 0);
        check.counts("gone far", x, 0, 0, 2, 0, 0, 0, 1, 1, 1, 12);
        LateLines y = oneGoes(1);
        y.store(4, 2, 60);
        check.due("load(0, 0)", y.load(0, 0), 11);
        check.due("got(1, 0)", y.got(1, 0), 50);
        check.due("got(1, 1)", y.got(1, 1), 0);
        check.due("where(0)", y.where(0), 1);
        check.due("item(0, 0, 2)", y.item(0, 0, 2), 1);
        check.due("where(4): what goes instead finds room", y.where(4), 2);
        check.due("store(4, 3, 61)", y.store(4, 3, 61), 12);
        check.due("item(4, 2, 2)", y.item(4, 2, 2), 1);
        check.due("item(4, 3, 1)", y.item(4, 3, 1), 61);
        check.due("where(0): it went in its turn", y.where(0), 2);
        y.ticks(2);
        check.due("where(0) at TICK 14", y.where(0), 2);
        y.ticks(1);
        check.due("where(0) at TICK 15", y.where(0), 0);
        check.counts("backs", y, 1, 0, 2, 2, 0, 0, 1, 2, 2, 15);
    }

    private static void aShelfOfThree() {
        LateLines x = new LateLines();
        x.sets(0, 1);
        x.sets(1, 3);
        x.sets(2, 4);
        x.sets(4, 20);
        for (int b = 0; b < 16; b += 4) {
            x.store(b, 0, 90);
        }
        x.ticks(20);
        check.due("where(0)", x.where(0), 2);
        check.due("where(4)", x.where(4), 2);
        check.due("where(8)", x.where(8), 2);
        check.due("where(12)", x.where(12), 1);
        x.ticks(8);
        check.due("where(0)", x.where(0), 0);
        check.due("where(4)", x.where(4), 2);
        x.ticks(1);
        check.due("where(4)", x.where(4), 0);
        check.due("where(8)", x.where(8), 2);
        check.counts("shelf of three", x, 0, 0, 4, 0, 0, 0, 2, 0, 0, 33);
        x.sets(1, 2);
        for (int b = 0; b < 16; b += 4) {
            x.store(b, 0, 90);
        }
        x.ticks(20);
        check.due("where(8): no room", x.where(8), 0);
        check.due("item(8, 0, 0)", x.item(8, 0, 0), 90);
        check.counts("shelf of two", x, 0, 0, 4, 0, 0, 1, 1, 0, 0, 24);
    }

    private static void haste() {
        LateLines x = oneGoes(0);
        check.due("where(0)", x.where(0), 0);
        check.due("item(0, 0, 0)", x.item(0, 0, 0), 50);
        check.due("item(0, 1, 0)", x.item(0, 1, 0), 1);
        check.counts("haste", x, 0, 0, 2, 0, 0, 1, 1, 1, 1, 9);
        check.due("fence()", x.fence(), 10);
    }

    /** Half of LONG TICKS, cut, but 1 at least: 1, 1, 1, 2, 2, 3 .. */
    private static void half() {
        for (int l = 1; l <= 20; l++) {
            LateLines x = new LateLines();
            x.sets(0, 1);
            x.sets(4, l);
            check.due("LONG " + l + ": store", x.store(1, 3, 9), 1);
            check.due("LONG " + l + ": ticks", x.ticks(l), 0);
            check.due("LONG " + l + ": load", x.load(5, 0), 2 + l);
            check.due("LONG " + l + ": fetch(0, 1)", x.fetch(0, 1), l);
            x.ticks(l);
            check.due("LONG " + l + ": where(1)", x.where(1), 2);
            check.due("LONG " + l + ": fence()", x.fence(), 2 + 2 * l + Math.max(1, l / 2));
            check.due("LONG " + l + ": item(1, 3, 0)", x.item(1, 3, 0), 9);
        }
    }

    private static void fences() {
        LateLines x = new LateLines();
        check.due("fence()", x.fence(), 1);
        x.load(0, 0);
        check.due("fence() behind a fetch", x.fence(), 8);
        check.counts("a fence stalls", x, 0, 0, 1, 0, 5, 0, 0, 1, 1, 8);
        LateLines y = oneGoes(1);
        check.due("fence() behind the shelf", y.fence(), 12);
        check.due("often(4)", y.often(4), 2);
        check.due("where(0)", y.where(0), 0);
        check.due("told(9)", y.told(9), 6);
    }

    /** What goes FAR at a TICK makes room on THE SHELF for what has to go at the same TICK. */
    private static void shelfBeforeFetches() {
        LateLines x = new LateLines();
        x.sets(0, 1);
        x.sets(4, 2);
        x.store(12, 0, 1);
        x.store(8, 0, 2);
        x.store(4, 0, 3);
        check.due("where(12) at TICK 3", x.where(12), 1);
        x.ticks(1);
        check.due("where(12) at TICK 4", x.where(12), 2);
        check.due("where(8) at TICK 4", x.where(8), 1);
        x.ticks(1);
        check.due("where(12) at TICK 5", x.where(12), 0);
        check.due("where(8) at TICK 5", x.where(8), 2);
        check.due("where(4) at TICK 5", x.where(4), 1);
        check.due("often(5)", x.often(5), 0);
        check.due("often(6)", x.often(6), 1);
    }

    private static void ticksCountLoads() {
        LateLines x = new LateLines();
        check.due("ticks(0)", x.ticks(0), 0);
        check.due("told(9)", x.told(9), 1);
        check.due("ticks(99)", x.ticks(99), 0);
        check.due("often(9)", x.often(9), 99);
        check.due("often(4)", x.often(4), 0);
        x.load(0, 0);
        x.load(0, 1);
        x.store(1, 1, 1);
        check.due("ticks(3)", x.ticks(3), 0);
        check.due("ticks(1)", x.ticks(1), 2);
        check.due("ticks(9)", x.ticks(9), 0);
        check.due("got(1, 0)", x.got(1, 0), 1);
    }

    private static void drawn() {
        LateLines x = new LateLines();
        check.due("draw(7, 40)", x.draw(7, 40), 59);
        check.due("draw(42, 40)", x.draw(42, 40), 49);
        check.due("often(7)", x.often(7), 61);
        int[] seeds = {0, 1, 12345, 77777, 999999};
        for (int seed : seeds) {
            LateLines y = new LateLines();
            LateLines z = new LateLines();
            long s = seed;
            for (int i = 0; i < 40; i++) {
                s = (s * 1103515245L + 12345L) & 0x7fffffffL;
                int box = (int) (s >> 16 & 15);
                int item = (int) (s >> 10 & 3);
                if ((s >> 15) % 3 == 0) {
                    z.store(box, item, (int) ((s >> 11) % 100));
                } else {
                    z.load(box, item);
                }
            }
            check.due("draw(" + seed + ", 40)", y.draw(seed, 40), z.often(9));
            for (int b = 0; b < 16; b++) {
                for (int j = 0; j < 4; j++) {
                    check.due("item " + b + " " + j, y.item(b, j, 1), z.item(b, j, 1));
                }
            }
            for (int i = 0; i < 10; i++) {
                check.due("often(" + i + ")", y.often(i), z.often(i));
            }
            check.due("told(9)", y.told(9), 1);
        }
        check.due("draw(0, 1)", new LateLines().draw(0, 1), 1);
    }

    private static void refuses() {
        LateLines x = new LateLines();
        int[] wrong = {-1, 100, 1000, Integer.MIN_VALUE, Integer.MAX_VALUE};
        for (int w : wrong) {
            check.due("load(" + w + ", 0)", x.load(w, 0), -2);
            check.due("load(0, " + w + ")", x.load(0, w), -2);
            check.due("store(" + w + ", 0, 0)", x.store(w, 0, 0), -2);
            check.due("store(0, " + w + ", 0)", x.store(0, w, 0), -2);
            check.due("store(0, 0, " + w + ")", x.store(0, 0, w), -2);
            check.due("ticks(" + w + ")", x.ticks(w), -2);
            check.due("draw(0, " + w + ")", x.draw(0, w), -2);
        }
        check.due("load(16, 0)", x.load(16, 0), -2);
        check.due("load(15, 4)", x.load(15, 4), -2);
        check.due("store(16, 0, 0)", x.store(16, 0, 0), -2);
        check.due("store(15, 4, 0)", x.store(15, 4, 0), -2);
        check.due("draw(-1, 1)", x.draw(-1, 1), -2);
        check.due("draw(1000000, 1)", x.draw(1000000, 1), -2);
        check.due("draw(0, 0)", x.draw(0, 0), -2);
        check.due("draw(0, 41)", x.draw(0, 41), -2);
        check.due("told(0)", x.told(0), 43);
        check.due("told(9)", x.told(9), 0);
        check.due("often(9)", x.often(9), 0);
        check.due("load(15, 3)", x.load(15, 3), 1);
        check.due("store(15, 3, 99)", x.store(15, 3, 99), 2);
    }
}
