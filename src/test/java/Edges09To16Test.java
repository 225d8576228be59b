/** Promises 9 to 16: for each sentence that names a boundary case, a test of its own. */
public final class Edges09To16Test {
    private static final Check check = new Check("edges of promises 9 to 16");
    private static final Refusals refusals = new Refusals(check);

    public static void main(String[] args) {
        gotRefuses();
        gotNothingYet();
        gotNotSoMany();
        gotTheFirst200();
        gotTheFirst200SinceAnew();
        gotAsTheyBegan();
        oftenRefuses();
        oftenEachByItself();
        whereRefuses();
        whereOneByOne();
        itemRefuses();
        itemAsALoadWouldGetIt();
        itemChanged();
        placeRefuses();
        placeFewer();
        fetchRefuses();
        fetchNotSoMany();
        fetchNotComeYet();
        fetchTicksUntilItComes();
        costRefuses();
        costOfNoLoad();
        costOfWaitsOfNone();
        costMeanOfAll();
        costGreatest();
        evenOfNoLoad();
        evenOfOneAndOfLike();
        evenBelowOne();
        evenPowersOfTwo();
        check.finish();
    }

    private static void got(LateLines x, int k, int value, int waited, int began) {
        check.due("got(" + k + ", 0)", x.got(k, 0), value);
        check.due("got(" + k + ", 1)", x.got(k, 1), waited);
        check.due("got(" + k + ", 2)", x.got(k, 2), began);
    }

    private static void gotRefuses() {
        check.of("Promise 9: BAD: k below 0, too");
        refusals.beyond("got(k, 0)", 0, Integer.MAX_VALUE, (x, v) -> x.got(v, 0));
        refusals.beyond("got(0, what)", 0, 2, (x, v) -> x.got(0, v));
        refusals.beyond("got(500, what)", 0, 2, (x, v) -> x.got(500, v));
    }

    private static void gotNothingYet() {
        check.of("Promise 9: NONE: nothing yet");
        LateLines x = new LateLines();
        x.load(0, 0);
        x.ticks(5);
        got(x, 0, -1, -1, 1);
        x.ticks(1);
        got(x, 0, 0, 6, 1);
    }

    private static void gotNotSoMany() {
        check.of("Promise 9: NONE: not so many");
        LateLines x = new LateLines();
        got(x, 0, -1, -1, -1);
        x.store(0, 0, 1);
        got(x, 0, -1, -1, -1);
        x.load(0, 0);
        got(x, 0, -1, -1, 2);
        got(x, 1, -1, -1, -1);
        got(x, 199, -1, -1, -1);
        got(x, 200, -1, -1, -1);
        got(x, Integer.MAX_VALUE, -1, -1, -1);
        check.due("told(0)", x.told(0), 0);
    }

    /** The STORE laid in first makes BOX 0 near at TICK 7; LOAD k begins at TICK 8 and k. */
    private static LateLines near(int loads) {
        LateLines x = new LateLines();
        x.store(0, 0, 1);
        x.ticks(6);
        for (int k = 0; k < loads; k++) {
            x.load(0, k % 4);
        }
        return x;
    }

    private static void gotTheFirst200() {
        check.of("Promise 9: the first 200");
        LateLines x = near(199);
        got(x, 198, 2, 0, 206);
        got(x, 199, -1, -1, -1);
        LateLines y = near(200);
        got(y, 199, 3, 0, 207);
        got(y, 200, -1, -1, -1);
        LateLines z = near(203);
        got(z, 0, 1, 0, 8);
        got(z, 199, 3, 0, 207);
        got(z, 200, -1, -1, -1);
        got(z, 202, -1, -1, -1);
        check.due("often(7)", z.often(7), 203);
        check.due("often(8)", z.often(8), 203);
        LateLines w = near(199);
        w.load(1, 1);
        w.load(1, 2);
        got(w, 199, -1, -1, 207);
        got(w, 200, -1, -1, -1);
        check.due("ticks(5)", w.ticks(5), 2);
        got(w, 199, 6, 6, 207);
        got(w, 200, -1, -1, -1);
        check.due("often(8)", w.often(8), 201);
        check.due("cost(1) is of all", w.cost(1), Float.floatToIntBits(11f / 201f));
    }

    private static void gotTheFirst200SinceAnew() {
        check.of("Promise 9: since all was as at first");
        LateLines x = near(230);
        x.anew();
        got(x, 0, -1, -1, -1);
        x.ticks(2);
        x.load(3, 3);
        got(x, 0, -1, -1, 3);
        got(x, 1, -1, -1, -1);
        x.sets(4, 2);
        got(x, 0, -1, -1, -1);
        x.load(3, 3);
        x.ticks(2);
        got(x, 0, 18, 2, 1);
        x.back();
        x.back();
        x.back();
        got(x, 0, -1, -1, 3);
        x.back();
        x.back();
        x.back();
        got(x, 199, 3, 0, 207);
    }

    private static void gotAsTheyBegan() {
        check.of("Promise 9: Of LOAD k (as they began)");
        LateLines x = new LateLines();
        x.load(0, 0);
        x.ticks(3);
        x.load(1, 1);
        x.ticks(2);
        x.load(0, 2);
        got(x, 0, 0, 6, 1);
        got(x, 1, -1, -1, 5);
        got(x, 2, 2, 0, 8);
        x.ticks(3);
        got(x, 1, 6, 6, 5);
    }

    private static void oftenRefuses() {
        check.of("Promise 10: BAD");
        refusals.beyond("often(what)", 0, 9, (x, v) -> x.often(v));
    }

    private static void oftenEachByItself() {
        check.of("Promise 10: How often: HITS (0) .. TICKS (9)");
        LateLines x = new LateLines();
        x.sets(0, 1);
        check.counts("at first", x, 0, 0, 0, 0, 0, 0, 0, 0, 0, 0);
        x.store(0, 0, 9);
        check.counts("a MISS", x, 0, 0, 1, 0, 0, 0, 0, 0, 0, 1);
        x.load(0, 0);
        check.counts("a JOIN", x, 0, 1, 1, 0, 0, 0, 0, 1, 0, 2);
        x.load(0, 0);
        check.counts("STALLS and a HIT", x, 1, 1, 1, 0, 4, 0, 0, 2, 2, 7);
        x.load(4, 0);
        x.ticks(6);
        check.counts("to THE SHELF", x, 1, 1, 2, 0, 4, 0, 0, 3, 3, 14);
        x.store(0, 1, 8);
        check.counts("a BACK", x, 1, 1, 2, 1, 4, 0, 0, 3, 3, 15);
        x.store(1, 0, 7);
        x.store(4, 0, 6);
        x.ticks(5);
        check.counts("two MISSES", x, 1, 1, 4, 1, 4, 0, 0, 3, 3, 22);
        x.load(5, 0);
        check.counts("0 is on THE SHELF", x, 1, 1, 5, 1, 4, 0, 0, 4, 3, 23);
        x.ticks(3);
        check.counts("0 went FAR", x, 1, 1, 5, 1, 4, 0, 1, 4, 3, 26);
        x.load(0, 0);
        x.ticks(6);
        check.counts("1 went FAR, 4 is on THE SHELF", x, 1, 1, 6, 1, 4, 0, 2, 5, 5, 33);
        LateLines y = new LateLines();
        y.sets(0, 1);
        y.sets(1, 0);
        y.store(0, 0, 9);
        y.load(4, 0);
        y.ticks(6);
        check.counts("HASTE", y, 0, 0, 2, 0, 0, 1, 1, 1, 1, 8);
    }

    private static void whereRefuses() {
        check.of("Promise 11: BAD");
        refusals.beyond("where(box)", 0, 15, (x, v) -> x.where(v));
    }

    private static void whereOneByOne() {
        check.of("Promise 11: 0 FAR, 1 NEAR, 2 on THE SHELF, 3 being fetched");
        LateLines x = new LateLines();
        x.sets(0, 1);
        int[] want = {0, 3, 3, 3, 3, 3, 3, 1, 2, 2, 2, 0};
        check.due("where(15) at first", x.where(15), want[0]);
        x.store(15, 0, 9);
        check.due("where(15) at TICK 1", x.where(15), want[1]);
        x.load(11, 0);
        for (int tick = 2; tick < 12; tick++) {
            check.due("where(15) at TICK " + tick, x.where(15), want[tick]);
            x.ticks(1);
        }
        check.due("where(0)", x.where(0), 0);
    }

    private static void itemRefuses() {
        check.of("Promise 12: BAD");
        refusals.beyond("item(box, 0, 0)", 0, 15, (x, v) -> x.item(v, 0, 0));
        refusals.beyond("item(0, j, 0)", 0, 3, (x, v) -> x.item(0, v, 0));
        refusals.beyond("item(0, 0, what)", 0, 2, (x, v) -> x.item(0, 0, v));
    }

    private static void itemAsALoadWouldGetIt() {
        check.of("Promise 12: as a LOAD that began now would get it at last");
        for (int wait = 0; wait < 20; wait++) {
            LateLines x = new LateLines();
            x.sets(0, 1);
            x.sets(3, 4);
            x.store(0, 2, 60);
            x.load(4, 0);
            x.store(0, 2, 61);
            x.store(4, 2, 62);
            x.ticks(wait);
            check.due("item(0, 2, 1) at TICK " + (4 + wait), x.item(0, 2, 1), 61);
            check.due("item(4, 2, 1) at TICK " + (4 + wait), x.item(4, 2, 1), 62);
            check.due("item(0, 1, 1) at TICK " + (4 + wait), x.item(0, 1, 1), 1);
            check.due("item(8, 3, 1) at TICK " + (4 + wait), x.item(8, 3, 1), 43);
            x.load(0, 2);
            x.load(4, 2);
            x.ticks(12);
            check.due("got(1, 0)", x.got(1, 0), 61);
            check.due("got(2, 0)", x.got(2, 0), 62);
        }
    }

    private static void itemChanged() {
        check.of("Promise 12: whether it is CHANGED (NEAR or on THE SHELF: 1, 0)");
        int[] want = {0, 0, 0, 0, 0, 0, 0, 1, 1, 1, 1, 0};
        for (int stored = 0; stored < 4; stored++) {
            LateLines x = new LateLines();
            x.sets(0, 1);
            changedIs(x, -1, 0);
            x.store(0, stored, stored);
            x.load(4, 0);
            for (int tick = 2; tick < 12; tick++) {
                changedIs(x, stored, want[tick]);
                x.ticks(1);
            }
            x.load(0, 2);
            x.ticks(6);
            check.due("where(0)", x.where(0), 1);
            changedIs(x, stored, 0);
        }
    }

    private static void changedIs(LateLines x, int stored, int want) {
        for (int j = 0; j < 4; j++) {
            check.due("item(0, " + j + ", 2) at TICK " + x.often(9), x.item(0, j, 2), j == stored ? want : 0);
        }
    }

    private static void placeRefuses() {
        check.of("Promise 13: BAD");
        refusals.beyond("place(r, 0)", 0, 3, (x, v) -> x.place(v, 0));
        refusals.beyond("place(0, k)", 0, 2, (x, v) -> x.place(0, v));
    }

    private static void placeFewer() {
        check.of("Promise 13: NONE: fewer");
        LateLines x = new LateLines();
        x.sets(0, 3);
        for (int near = 0; near <= 3; near++) {
            for (int k = 0; k < 3; k++) {
                check.due("place(3, " + k + ") of " + near, x.place(3, k), k < near ? 4 * (near - k) - 1 : -1);
                check.due("place(2, " + k + ")", x.place(2, k), -1);
            }
            x.load(3 + 4 * near, 0);
            x.ticks(6);
        }
        check.due("place(3, 2) of a full ROW", x.place(3, 2), 7);
        LateLines y = new LateLines();
        y.sets(0, 1);
        y.store(0, 0, 1);
        y.load(4, 0);
        y.ticks(6);
        check.due("place(0, 0)", y.place(0, 0), 4);
        check.due("place(0, 1): what is on THE SHELF has none", y.place(0, 1), -1);
    }

    private static void fetchRefuses() {
        check.of("Promise 14: BAD: k below 0, too");
        refusals.beyond("fetch(k, 0)", 0, Integer.MAX_VALUE, (x, v) -> x.fetch(v, 0));
        refusals.beyond("fetch(0, what)", 0, 2, (x, v) -> x.fetch(0, v));
        refusals.beyond("fetch(500, what)", 0, 2, (x, v) -> x.fetch(500, v));
    }

    private static void fetchNotSoMany() {
        check.of("Promise 14: NONE: not so many");
        LateLines x = new LateLines();
        x.sets(2, 4);
        for (int begun = 0; begun <= 4; begun++) {
            for (int k = 0; k < 6; k++) {
                for (int what = 0; what < 3; what++) {
                    int[] want = {13 - k, 6 - (begun - 1 - k), 1};
                    int due = k < begun ? want[what] : -1;
                    check.due("fetch(" + k + ", " + what + ") of " + begun, x.fetch(k, what), due);
                }
            }
            if (begun < 4) {
                x.load(13 - begun, 0);
            }
        }
        check.due("fetch(MAX, 0)", x.fetch(Integer.MAX_VALUE, 0), -1);
        check.due("told(0)", x.told(0), 0);
    }

    private static void fetchNotComeYet() {
        check.of("Promise 14: Of FETCH k (as they began, those not come yet)");
        LateLines x = new LateLines();
        x.load(9, 0);
        x.load(2, 0);
        x.ticks(4);
        check.due("fetch(0, 0)", x.fetch(0, 0), 9);
        check.due("fetch(1, 0)", x.fetch(1, 0), 2);
        x.load(5, 0);
        check.due("fetch(0, 0)", x.fetch(0, 0), 2);
        check.due("fetch(1, 0)", x.fetch(1, 0), 5);
        x.ticks(1);
        check.due("fetch(0, 0)", x.fetch(0, 0), 5);
        check.due("fetch(1, 0)", x.fetch(1, 0), -1);
        x.ticks(5);
        check.due("fetch(0, 0)", x.fetch(0, 0), -1);
    }

    private static void fetchTicksUntilItComes() {
        check.of("Promise 14: TICKS until it comes (1), ASKERS (2)");
        LateLines x = new LateLines();
        x.sets(3, 4);
        x.load(9, 0);
        for (int tick = 1; tick < 7; tick++) {
            check.due("fetch(0, 1) at TICK " + tick, x.fetch(0, 1), 7 - tick);
            check.due("fetch(0, 2) at TICK " + tick, x.fetch(0, 2), Math.min(tick, 4));
            if (tick < 4) {
                x.store(9, 0, tick);
            } else {
                x.ticks(1);
            }
        }
        check.due("fetch(0, 1) at TICK 7", x.fetch(0, 1), -1);
    }

    private static void costRefuses() {
        check.of("Promise 15: BAD: -2");
        refusals.beyond("cost(what)", 0, 2, (x, v) -> x.cost(v));
    }

    private static void costOfNoLoad() {
        check.of("Promise 15: none: 0");
        LateLines x = new LateLines();
        for (int what = 0; what < 3; what++) {
            check.due("cost(" + what + ")", x.cost(what), 0);
        }
        x.store(0, 0, 1);
        x.load(0, 0);
        x.ticks(4);
        check.due("cost(1): a LOAD that got nothing yet", x.cost(1), 0);
        check.due("cost(2)", x.cost(2), 0);
        x.ticks(1);
        check.due("cost(1)", x.cost(1), Float.floatToIntBits(5f));
        check.due("cost(2)", x.cost(2), Float.floatToIntBits(5f));
    }

    private static void costOfWaitsOfNone() {
        check.of("Promise 15: what LOADS that got theirs waited on the mean: all waited 0");
        LateLines x = near(3);
        check.due("cost(1)", x.cost(1), 0);
        check.due("cost(2)", x.cost(2), 0);
        check.due("even()", x.even(), 0L);
    }

    private static void costMeanOfAll() {
        check.of("Promise 15: all together as a float by how many as a float");
        LateLines x = new LateLines();
        x.load(0, 0);
        x.ticks(6);
        for (int n = 1; n <= 250; n++) {
            check.due("cost(1) of " + n, x.cost(1), Float.floatToIntBits(6f / (float) n));
            x.load(0, 0);
        }
        LateLines y = new LateLines();
        y.sets(3, 3);
        y.load(0, 0);
        y.load(0, 0);
        y.load(0, 0);
        y.ticks(9);
        check.due("cost(1) of 6, 5, 4", y.cost(1), Float.floatToIntBits(5f));
        LateLines z = new LateLines();
        z.sets(4, 1);
        for (int i = 0; i < 3; i++) {
            z.load(i, 0);
        }
        z.load(2, 0);
        check.due("cost(1) of 1, 1, 1, 0", z.cost(1), Float.floatToIntBits(0.75f));
    }

    private static void costGreatest() {
        check.of("Promise 15: of the greatest wait (2)");
        for (int l = 1; l <= 20; l++) {
            LateLines x = new LateLines();
            x.sets(4, l);
            x.sets(3, 4);
            x.load(1, 0);
            x.load(1, 0);
            x.ticks(l);
            check.due("cost(2) of LONG " + l, x.cost(2), Float.floatToIntBits((float) l));
            x.load(1, 0);
            check.due("cost(2) stays", x.cost(2), Float.floatToIntBits((float) l));
        }
        LateLines x = new LateLines();
        x.sets(3, 4);
        x.store(0, 0, 1);
        x.load(0, 0);
        x.ticks(5);
        check.due("cost(2): a STORE's wait counts not", x.cost(2), Float.floatToIntBits(5f));
        x.load(1, 0);
        x.ticks(6);
        check.due("cost(2): a greater one", x.cost(2), Float.floatToIntBits(6f));
    }

    private static void evenOfNoLoad() {
        check.of("Promise 16: none: 0");
        LateLines x = new LateLines();
        check.due("even()", x.even(), 0L);
        x.load(0, 0);
        x.store(1, 0, 5);
        x.ticks(5);
        check.due("even(): a LOAD that got nothing yet", x.even(), 0L);
    }

    private static void evenOfOneAndOfLike() {
        check.of("Promise 16: the mean of squares of waits less the square of the mean wait: 0 of one and of like ones");
        LateLines x = new LateLines();
        x.sets(2, 4);
        for (int i = 0; i < 4; i++) {
            x.load(i, 0);
        }
        x.ticks(3);
        check.due("even() of 6", x.even(), 0L);
        x.ticks(3);
        check.due("even() of 6, 6, 6, 6", x.even(), 0L);
        x.load(0, 0);
        double mean = 24.0 / 5.0;
        check.due("even() of 6, 6, 6, 6, 0", x.even(), Double.doubleToLongBits(144.0 / 5.0 - mean * mean));
    }

    private static void evenBelowOne() {
        check.of("Promise 16: as a double: all by how many");
        LateLines x = new LateLines();
        x.sets(4, 1);
        x.load(0, 0);
        x.ticks(1);
        for (int n = 1; n < 150; n++) {
            double mean = 1.0 / n;
            check.due("even() of one 1 in " + n, x.even(), Double.doubleToLongBits(1.0 / n - mean * mean));
            x.load(0, 0);
        }
        LateLines y = new LateLines();
        y.sets(4, 20);
        y.load(0, 0);
        y.load(0, 0);
        y.ticks(19);
        check.due("even() of 20, 19", y.even(), Double.doubleToLongBits((400.0 + 361.0) / 2.0 - 19.5 * 19.5));
        y.load(0, 0);
        double mean = 39.0 / 3.0;
        check.due("even() of 20, 19, 0", y.even(), Double.doubleToLongBits(761.0 / 3.0 - mean * mean));
    }

    /** Waits of d, d, 2 d and 0: the mean is d, the mean of squares less its square d d by 2. */
    private static void evenPowersOfTwo() {
        check.of("Promise 16: Bits (double), of powers of two, too");
        for (int d = 1; d <= 10; d++) {
            LateLines x = new LateLines();
            x.sets(4, 2 * d);
            for (int box = 1; box <= 2; box++) {
                x.store(box, 0, 0);
                x.ticks(d - 1);
                x.load(box, 0);
                check.due("ticks(d)", x.ticks(d), 1);
                check.due("even()", x.even(), 0L);
            }
            x.load(3, 0);
            x.ticks(2 * d);
            x.load(3, 0);
            check.due("cost(1) of d, d, 2 d, 0", x.cost(1), Float.floatToIntBits((float) d));
            check.due("even() of d, d, 2 d, 0", x.even(), Double.doubleToLongBits(d * d / 2.0));
            LateLines y = new LateLines();
            y.sets(4, d);
            y.load(0, 0);
            y.ticks(d);
            y.load(0, 0);
            check.due("cost(1) of d, 0", y.cost(1), Float.floatToIntBits((float) d / 2f));
            check.due("even() of d, 0", y.even(), Double.doubleToLongBits(d * d / 4.0));
        }
    }
}
