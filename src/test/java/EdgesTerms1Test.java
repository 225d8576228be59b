/** Terms 1: for each sentence that names a boundary case, a test of its own. */
public final class EdgesTerms1Test {
    private static final Check check = new Check("edges of Terms 1");

    private static final int PLACES = 0, SHELF = 1, FETCHES = 2, ASKERS = 3, LONG = 4;
    private static final int FAR = 0, NEAR = 1, SHELVED = 2, COMING = 3;

    public static void main(String[] args) {
        usedFor512Calls();
        firstAndLastBoxAndItem();
        leastAndGreatestValue();
        rowByFourLeftOver();
        placesOneToThree();
        shelfOfNoneToThree();
        fetchesOneToFour();
        fetchesFullHoldsNobodyElse();
        askersOneToFour();
        longOneToTwenty();
        halfCutOneAtLeast();
        firstTick();
        beginsOrStalls();
        shelfThenFetches();
        shelfTimeAndABack();
        shelfTimesAtOnce();
        comesAsItIsFar();
        freePlaceOrNone();
        usedLeastLately();
        notChangedNeedsNoShelf();
        roomOrHaste();
        askersInTheirOrder();
        countsAsUsedWhenItComes();
        waitedFromTheTickOfBeginning();
        fenceAtOnce();
        fenceBehindFetches();
        fenceBehindTheShelf();
        fenceBehindBoth();
        hitAtOnce();
        storeChangesOneItem();
        backFromTheShelf();
        backFindsRoom();
        backAndWhatIsNotChanged();
        backByAStore();
        joinOrStall();
        missOrStall();
        atLast();
        check.finish();
    }

    private static LateLines with(int places, int shelf, int fetches, int askers, int ticks) {
        LateLines x = new LateLines();
        int[] v = {places, shelf, fetches, askers, ticks};
        for (int what = 0; what < 5; what++) {
            x.sets(what, v[what]);
        }
        return x;
    }

    private static void where(LateLines x, int box, int want) {
        check.due("where(" + box + ") at TICK " + x.often(9), x.where(box), want);
    }

    private static void item(LateLines x, int box, int j, int what, int want) {
        check.due("item(" + box + ", " + j + ", " + what + ") at TICK " + x.often(9), x.item(box, j, what), want);
    }

    private static void often(LateLines x, int what, int want) {
        check.due("often(" + what + ") at TICK " + x.often(9), x.often(what), want);
    }

    private static void got(LateLines x, int k, int value, int waited, int began) {
        check.due("got(" + k + ", 0)", x.got(k, 0), value);
        check.due("got(" + k + ", 1)", x.got(k, 1), waited);
        check.due("got(" + k + ", 2)", x.got(k, 2), began);
    }

    private static void usedFor512Calls() {
        check.of("An object is used for at most 512 calls after it has been made");
        LateLines x = new LateLines();
        for (int i = 0; i < 30; i++) {
            x.type('#');
            x.type('9');
            x.type('9');
            x.type(';');
        }
        for (int call = 121; call <= 510; call++) {
            check.due("call " + call + ", runs()", x.runs(), 2970);
        }
        check.due("call 511, load(0, 0)", x.load(0, 0), 390 * 2970 + 1);
        check.due("call 512, often(9)", x.often(9), 390 * 2970 + 1);
        LateLines y = new LateLines();
        Model m = new Model();
        for (int call = 1; call <= 511; call++) {
            check.due("call " + call + ", draw", y.draw(call, 40), m.draw(call, 40));
        }
        check.due("call 512, digest()", y.digest(), m.digest());
    }

    private static void firstAndLastBoxAndItem() {
        check.of("BOXES 0 .. 15 of 4 ITEMS, ITEM j of BOX b is 5 b and j at first");
        LateLines x = new LateLines();
        item(x, 0, 0, 0, 0);
        item(x, 0, 3, 0, 3);
        item(x, 15, 0, 0, 75);
        item(x, 15, 3, 0, 78);
        item(x, -1, 0, 0, -2);
        item(x, 16, 0, 0, -2);
        item(x, 0, -1, 0, -2);
        item(x, 0, 4, 0, -2);
        check.due("load(0, 0)", x.load(0, 0), 1);
        check.due("load(15, 3)", x.load(15, 3), 2);
        x.ticks(6);
        got(x, 0, 0, 6, 1);
        got(x, 1, 78, 6, 2);
    }

    private static void leastAndGreatestValue() {
        check.of("ITEMS (0 .. 99)");
        for (int v : new int[] {0, 99}) {
            LateLines x = with(1, 1, 2, 2, 1);
            x.store(15, 3, v);
            check.due("item(15, 3, 1)", x.item(15, 3, 1), v);
            x.load(11, 0);
            item(x, 15, 3, 0, 78);
            item(x, 15, 3, 2, 1);
            x.fence();
            item(x, 15, 3, 0, v);
            item(x, 15, 2, 0, 77);
            check.due("store of too little", x.store(15, 3, -1), -2);
            check.due("store of too much", x.store(15, 3, 100), -2);
            item(x, 15, 3, 1, v);
        }
    }

    private static void rowByFourLeftOver() {
        check.of("BOX b may be in ROW b by 4 left over");
        for (int b = 0; b < 16; b++) {
            LateLines x = new LateLines();
            x.load(b, 0);
            x.ticks(6);
            for (int r = 0; r < 4; r++) {
                check.due("place(" + r + ", 0) with BOX " + b, x.place(r, 0), r == b % 4 ? b : -1);
            }
        }
        LateLines x = with(1, 1, 4, 2, 6);
        x.load(3, 0);
        x.load(4, 0);
        x.load(15, 0);
        x.ticks(6);
        where(x, 3, FAR);
        where(x, 4, NEAR);
        where(x, 15, NEAR);
    }

    private static void placesOneToThree() {
        check.of("4 ROWS with PLACES (1 .. 3) for BOXES");
        for (int places = 1; places <= 3; places++) {
            LateLines x = with(places, 1, 4, 2, 6);
            for (int i = 0; i < 4; i++) {
                x.load(2 + 4 * i, 0);
            }
            x.ticks(5);
            for (int i = 0; i < 4; i++) {
                where(x, 2 + 4 * i, i == 3 ? COMING : i >= 3 - places ? NEAR : FAR);
            }
            x.ticks(1);
            for (int i = 0; i < 4; i++) {
                where(x, 2 + 4 * i, i >= 4 - places ? NEAR : FAR);
            }
            for (int k = 0; k < 3; k++) {
                check.due("place(2, " + k + ")", x.place(2, k), k < places ? 14 - 4 * k : -1);
            }
        }
        LateLines x = new LateLines();
        check.due("PLACES at first", x.sets(PLACES, 2), 2);
    }

    private static void shelfOfNoneToThree() {
        check.of("SHELF: S (0 .. 3) BOXES that go out");
        for (int s = 0; s <= 3; s++) {
            LateLines x = with(1, s, 4, 2, 20);
            for (int b = 0; b < 4; b++) {
                x.store(b, 0, 90 + b);
            }
            x.ticks(20);
            for (int b = 4; b < 8; b++) {
                x.load(b, 0);
            }
            x.ticks(20);
            for (int b = 0; b < 4; b++) {
                where(x, b, b < s ? SHELVED : FAR);
                item(x, b, 0, 0, b < s ? 5 * b : 90 + b);
                item(x, b, 0, 1, 90 + b);
            }
            often(x, 5, 4 - s);
            often(x, 6, 4 - s);
        }
        LateLines x = new LateLines();
        check.due("S at first", x.sets(SHELF, 1), 1);
    }

    private static void fetchesOneToFour() {
        check.of("FETCHES: F (1 .. 4) BOXES at a time");
        for (int f = 1; f <= 4; f++) {
            LateLines x = with(2, 1, f, 2, 9);
            for (int k = 0; k < f; k++) {
                check.due("F " + f + ": load " + k, x.load(k, 0), 1 + k);
            }
            check.due("F " + f + ": fetch(F - 1, 0)", x.fetch(f - 1, 0), f - 1);
            check.due("F " + f + ": fetch(F, 0)", x.fetch(f, 0), -1);
            check.due("F " + f + ": one too many", x.load(7, 0), 10);
            often(x, 4, 9 - f);
            check.due("F " + f + ": fetch(F - 1, 0)", x.fetch(f - 1, 0), 7);
            check.due("F " + f + ": fetch(F, 0)", x.fetch(f, 0), -1);
        }
        LateLines x = new LateLines();
        check.due("F at first", x.sets(FETCHES, 2), 2);
    }

    private static void fetchesFullHoldsNobodyElse() {
        check.of("a FETCH begins, if there are fewer than F; HIT, BACK and JOIN need none");
        LateLines x = with(1, 1, 1, 2, 6);
        x.store(0, 0, 70);
        x.ticks(6);
        x.load(4, 0);
        x.ticks(6);
        where(x, 0, SHELVED);
        x.load(9, 0);
        check.due("HIT", x.load(4, 1), 16);
        LateLines y = with(1, 1, 1, 2, 6);
        y.store(0, 0, 70);
        y.ticks(6);
        y.load(4, 0);
        y.ticks(6);
        y.load(9, 0);
        check.due("BACK", y.load(0, 0), 16);
        check.due("JOIN", y.load(9, 1), 17);
        often(y, 3, 1);
        often(y, 1, 1);
        often(y, 4, 0);
    }

    private static void askersOneToFour() {
        check.of("each with up to T (1 .. 4) ASKERS");
        for (int t = 1; t <= 4; t++) {
            LateLines x = with(2, 1, 2, t, 8);
            for (int i = 0; i < t; i++) {
                check.due("T " + t + ": asker " + i, x.load(5, i), 1 + i);
            }
            check.due("T " + t + ": fetch(0, 2)", x.fetch(0, 2), t);
            check.due("T " + t + ": one too many", x.store(5, 0, 1), 9);
            often(x, 0, 1);
            often(x, 1, t - 1);
            often(x, 2, 1);
            often(x, 4, 8 - t);
        }
        LateLines x = new LateLines();
        check.due("T at first", x.sets(ASKERS, 2), 2);
    }

    private static void longOneToTwenty() {
        check.of("A FETCH takes LONG TICKS (1 .. 20)");
        for (int l = 1; l <= 20; l++) {
            LateLines x = with(2, 1, 2, 2, l);
            x.load(1, 1);
            check.due("LONG " + l + ": fetch(0, 1)", x.fetch(0, 1), l);
            check.due("LONG " + l + ": ticks(LONG - 1)", x.ticks(l - 1), 0);
            where(x, 1, COMING);
            check.due("LONG " + l + ": ticks(1)", x.ticks(1), 1);
            where(x, 1, NEAR);
            got(x, 0, 6, l, 1);
        }
        LateLines x = new LateLines();
        check.due("LONG at first", x.sets(LONG, 6), 6);
    }

    private static void halfCutOneAtLeast() {
        check.of("a BOX on THE SHELF half of it (cut, 1 at least)");
        int[] half = {0, 1, 1, 1, 2, 2, 3, 3, 4, 4, 5, 5, 6, 6, 7, 7, 8, 8, 9, 9, 10};
        for (int l = 1; l <= 20; l++) {
            LateLines x = with(1, 1, 2, 2, l);
            x.store(1, 3, 9);
            x.ticks(l);
            x.load(5, 0);
            x.ticks(l);
            where(x, 1, SHELVED);
            x.ticks(half[l] - 1);
            where(x, 1, SHELVED);
            item(x, 1, 3, 0, 8);
            x.ticks(1);
            where(x, 1, FAR);
            item(x, 1, 3, 0, 9);
        }
    }

    private static void firstTick() {
        check.of("TICKS go by one by one (the first is TICK 1)");
        check.due("load(0, 0)", new LateLines().load(0, 0), 1);
        check.due("store(0, 0, 0)", new LateLines().store(0, 0, 0), 1);
        check.due("fence()", new LateLines().fence(), 1);
        LateLines x = new LateLines();
        often(x, 9, 0);
        x.ticks(1);
        often(x, 9, 1);
        x.anew();
        check.due("load(0, 0) after anew()", x.load(0, 0), 1);
        x.sets(PLACES, 2);
        check.due("load(0, 0) after sets()", x.load(0, 0), 1);
    }

    private static void beginsOrStalls() {
        check.of("begins at a TICK, if it can, else that TICK is a STALL and it begins at a later one");
        LateLines x = with(2, 1, 1, 1, 1);
        check.due("load(0, 0)", x.load(0, 0), 1);
        check.due("load(1, 0): at the TICK at which the other comes", x.load(1, 0), 2);
        often(x, 4, 0);
        LateLines y = with(2, 1, 1, 1, 2);
        check.due("load(0, 0)", y.load(0, 0), 1);
        check.due("load(1, 0): one STALL", y.load(1, 0), 3);
        often(y, 4, 1);
        got(y, 0, 0, 2, 1);
        got(y, 1, -1, -1, 3);
    }

    private static void shelfThenFetches() {
        check.of("BOXES on THE SHELF whose time has come go FAR; then FETCHES whose time has come");
        LateLines x = with(1, 1, 2, 2, 2);
        x.store(12, 0, 1);
        x.store(8, 0, 2);
        x.load(4, 0);
        x.ticks(1);
        where(x, 12, SHELVED);
        where(x, 8, NEAR);
        x.ticks(1);
        where(x, 12, FAR);
        where(x, 8, SHELVED);
        often(x, 5, 0);
        often(x, 6, 1);
    }

    private static LateLines nearlyFar() {
        LateLines x = with(1, 1, 2, 2, 6);
        x.store(0, 0, 70);
        x.load(4, 0);
        x.ticks(6);
        where(x, 0, SHELVED);
        return x;
    }

    private static void shelfTimeAndABack() {
        check.of("At each TICK first BOXES on THE SHELF whose time has come go FAR; then what is to be done");
        LateLines x = nearlyFar();
        x.ticks(1);
        check.due("load(0, 0) one TICK before its time", x.load(0, 0), 10);
        got(x, 1, 70, 0, 10);
        often(x, 3, 1);
        LateLines y = nearlyFar();
        y.ticks(2);
        check.due("load(0, 0) at its time", y.load(0, 0), 11);
        got(y, 1, -1, -1, 11);
        often(y, 3, 0);
        often(y, 2, 3);
        often(y, 6, 1);
        y.ticks(6);
        got(y, 1, 70, 6, 11);
    }

    private static void shelfTimesAtOnce() {
        check.of("of all whose time has come, by BOXES");
        LateLines x = with(1, 3, 4, 2, 6);
        x.store(0, 0, 91);
        x.store(1, 0, 92);
        x.ticks(6);
        x.store(5, 0, 93);
        x.load(4, 0);
        x.ticks(5);
        where(x, 1, SHELVED);
        where(x, 0, NEAR);
        check.due("load(1, 0)", x.load(1, 0), 16);
        where(x, 0, SHELVED);
        where(x, 5, SHELVED);
        x.ticks(2);
        often(x, 6, 0);
        x.ticks(1);
        often(x, 6, 2);
        item(x, 0, 0, 0, 91);
        item(x, 5, 0, 0, 93);
        item(x, 1, 0, 0, 5);
        item(x, 1, 0, 2, 1);
    }

    private static void comesAsItIsFar() {
        check.of("the BOX comes as it is FAR");
        LateLines x = with(1, 0, 2, 2, 3);
        x.store(6, 2, 81);
        x.load(10, 0);
        x.fence();
        item(x, 6, 2, 0, 81);
        x.load(6, 2);
        x.load(6, 1);
        x.ticks(3);
        got(x, 1, 81, 3, 6);
        got(x, 2, 31, 2, 7);
        item(x, 6, 2, 2, 0);
    }

    private static void freePlaceOrNone() {
        check.of("if its ROW has no free PLACE, the BOX there goes");
        LateLines x = with(2, 1, 4, 2, 6);
        x.store(0, 0, 1);
        x.store(4, 0, 2);
        x.ticks(6);
        where(x, 0, NEAR);
        where(x, 4, NEAR);
        x.load(8, 0);
        x.ticks(5);
        where(x, 0, NEAR);
        x.ticks(1);
        where(x, 0, SHELVED);
        where(x, 4, NEAR);
        where(x, 8, NEAR);
    }

    private static void usedLeastLately() {
        check.of("the BOX there that was used least lately goes");
        for (int used = 0; used < 3; used++) {
            LateLines x = with(3, 1, 4, 2, 6);
            for (int i = 0; i < 3; i++) {
                x.load(3 + 4 * i, 0);
            }
            x.ticks(6);
            x.load(3 + 4 * used, 1);
            x.load(15, 0);
            x.ticks(6);
            for (int i = 0; i < 3; i++) {
                where(x, 3 + 4 * i, i == (used == 0 ? 1 : 0) ? FAR : NEAR);
            }
        }
    }

    private static void notChangedNeedsNoShelf() {
        check.of("if it is CHANGED, to THE SHELF");
        for (int s = 0; s <= 1; s++) {
            LateLines x = with(1, s, 2, 2, 6);
            x.load(0, 0);
            x.load(4, 0);
            x.ticks(6);
            where(x, 0, FAR);
            often(x, 5, 0);
            often(x, 6, 0);
            check.due("fence()", x.fence(), 9);
        }
    }

    private static void roomOrHaste() {
        check.of("is there no room on THE SHELF, it is written FAR at once (HASTE; it counts as gone FAR, too)");
        LateLines x = with(1, 1, 4, 2, 6);
        x.store(0, 1, 91);
        x.store(1, 2, 92);
        x.ticks(6);
        x.load(4, 0);
        x.load(5, 0);
        x.ticks(5);
        where(x, 0, SHELVED);
        where(x, 1, NEAR);
        often(x, 5, 0);
        x.ticks(1);
        where(x, 0, SHELVED);
        where(x, 1, FAR);
        item(x, 0, 1, 0, 1);
        item(x, 1, 2, 0, 92);
        item(x, 1, 2, 2, 0);
        often(x, 5, 1);
        often(x, 6, 1);
        x.ticks(2);
        where(x, 0, FAR);
        often(x, 5, 1);
        often(x, 6, 2);
    }

    private static void askersInTheirOrder() {
        check.of("Then ASKERS of the FETCH, in the order in which they came: a LOAD gets its ITEM as it is by then");
        LateLines x = with(2, 1, 2, 4, 6);
        x.load(7, 3);
        x.store(7, 3, 11);
        x.load(7, 3);
        x.store(7, 3, 12);
        check.due("ticks(3)", x.ticks(3), 2);
        got(x, 0, 38, 6, 1);
        got(x, 1, 11, 4, 3);
        item(x, 7, 3, 1, 12);
        item(x, 7, 3, 2, 1);
    }

    private static void countsAsUsedWhenItComes() {
        check.of("the BOX counts as used then");
        LateLines x = with(2, 1, 2, 2, 6);
        x.load(0, 0);
        x.load(4, 0);
        x.ticks(5);
        x.load(0, 1);
        check.due("place(0, 0): the other came later", x.place(0, 0), 0);
        LateLines y = with(2, 1, 2, 2, 6);
        y.load(0, 0);
        y.ticks(6);
        y.load(4, 0);
        y.load(0, 1);
        y.ticks(5);
        check.due("place(0, 0): it came after the HIT", y.place(0, 0), 4);
        check.due("place(0, 1)", y.place(0, 1), 0);
    }

    private static void waitedFromTheTickOfBeginning() {
        check.of("They waited from the TICK at which they began");
        LateLines x = with(2, 1, 2, 2, 6);
        x.load(0, 0);
        x.ticks(4);
        check.due("load(0, 1) one TICK before it comes", x.load(0, 1), 6);
        got(x, 1, -1, -1, 6);
        check.due("load(0, 2) at the TICK at which it comes", x.load(0, 2), 7);
        got(x, 0, 0, 6, 1);
        got(x, 1, 1, 1, 6);
        got(x, 2, 2, 0, 7);
        LateLines y = with(2, 1, 1, 1, 6);
        y.load(0, 0);
        check.due("load(0, 1): STALLS are not waited", y.load(0, 1), 7);
        got(y, 1, 1, 0, 7);
    }

    private static void fenceAtOnce() {
        check.of("a FENCE, if there are no FETCHES and THE SHELF is empty");
        LateLines x = new LateLines();
        check.due("fence()", x.fence(), 1);
        check.due("fence()", x.fence(), 2);
        x.store(0, 0, 1);
        x.ticks(5);
        where(x, 0, COMING);
        check.due("fence() at the TICK at which it comes; CHANGED holds it not", x.fence(), 9);
        item(x, 0, 0, 2, 1);
        often(x, 4, 0);
    }

    private static void fenceBehindFetches() {
        check.of("a FENCE, if there are no FETCHES");
        LateLines x = with(2, 1, 4, 2, 6);
        for (int b = 0; b < 4; b++) {
            x.load(b, 0);
        }
        check.due("fence()", x.fence(), 10);
        often(x, 4, 5);
        often(x, 8, 4);
    }

    private static void fenceBehindTheShelf() {
        check.of("a FENCE, if THE SHELF is empty");
        LateLines x = nearlyFar();
        check.due("fence()", x.fence(), 11);
        often(x, 4, 2);
        where(x, 0, FAR);
    }

    private static void fenceBehindBoth() {
        check.of("a fence lets nothing by until all has come");
        LateLines x = with(1, 1, 2, 2, 6);
        x.store(0, 0, 70);
        x.load(4, 0);
        check.due("fence()", x.fence(), 11);
        often(x, 4, 8);
        often(x, 6, 1);
        item(x, 0, 0, 0, 70);
    }

    private static void hitAtOnce() {
        check.of("of a BOX that is near: at once (HIT; waited 0)");
        LateLines x = new LateLines();
        x.load(2, 0);
        x.ticks(6);
        check.due("load(2, 3)", x.load(2, 3), 8);
        got(x, 1, 13, 0, 8);
        check.due("store(2, 3, 5)", x.store(2, 3, 5), 9);
        check.due("load(2, 3)", x.load(2, 3), 10);
        got(x, 2, 5, 0, 10);
        often(x, 0, 3);
        often(x, 4, 0);
    }

    private static void storeChangesOneItem() {
        check.of("a STORE makes the ITEM CHANGED");
        LateLines x = new LateLines();
        x.load(2, 0);
        x.ticks(6);
        for (int j = 0; j < 4; j++) {
            item(x, 2, j, 2, 0);
        }
        x.store(2, 1, 11);
        for (int j = 0; j < 4; j++) {
            item(x, 2, j, 2, j == 1 ? 1 : 0);
        }
        LateLines y = with(1, 0, 2, 2, 6);
        y.store(2, 1, 11);
        y.load(6, 0);
        y.ticks(6);
        check.due("BOXES gone FAR, though the value is what it was", y.often(6), 1);
    }

    private static void backFromTheShelf() {
        check.of("on THE SHELF: it comes back from there (BACK), CHANGED as it was (waited 0)");
        LateLines x = nearlyFar();
        check.due("load(0, 1)", x.load(0, 1), 9);
        got(x, 1, 1, 0, 9);
        where(x, 0, NEAR);
        where(x, 4, FAR);
        item(x, 0, 0, 1, 70);
        item(x, 0, 0, 2, 1);
        item(x, 0, 1, 2, 0);
        item(x, 0, 0, 0, 0);
        check.due("place(0, 0)", x.place(0, 0), 0);
        often(x, 3, 1);
        often(x, 6, 0);
        x.ticks(20);
        where(x, 0, NEAR);
        often(x, 6, 0);
    }

    private static void backFindsRoom() {
        check.of("as by a FETCH that has come: what goes in its stead finds the room that it left");
        LateLines x = nearlyFar();
        x.store(4, 0, 71);
        check.due("load(0, 0)", x.load(0, 0), 10);
        where(x, 0, NEAR);
        where(x, 4, SHELVED);
        often(x, 5, 0);
        x.ticks(2);
        where(x, 4, SHELVED);
        x.ticks(1);
        where(x, 4, FAR);
        item(x, 4, 0, 0, 71);
        often(x, 6, 1);
    }

    private static void backAndWhatIsNotChanged() {
        check.of("BACK: as by a FETCH that has come; what has to go and is not CHANGED needs no SHELF");
        LateLines x = nearlyFar();
        x.load(0, 0);
        where(x, 4, FAR);
        check.due("fence()", x.fence(), 10);
    }

    private static void backByAStore() {
        check.of("BACK, the one that asks being its one ASKER");
        LateLines x = nearlyFar();
        check.due("store(0, 3, 72)", x.store(0, 3, 72), 9);
        where(x, 0, NEAR);
        item(x, 0, 0, 2, 1);
        item(x, 0, 3, 2, 1);
        item(x, 0, 3, 1, 72);
        item(x, 0, 0, 1, 70);
        often(x, 3, 1);
        often(x, 8, 1);
    }

    private static void joinOrStall() {
        check.of("one more ASKER, if there are fewer than T (JOIN); else STALL");
        LateLines x = with(2, 1, 4, 2, 6);
        x.load(0, 0);
        check.due("a second", x.store(0, 0, 9), 2);
        often(x, 1, 1);
        check.due("a third", x.load(0, 0), 7);
        often(x, 1, 1);
        often(x, 4, 4);
        got(x, 1, 9, 0, 7);
    }

    private static void missOrStall() {
        check.of("a FETCH begins, if there are fewer than F, with it as ASKER (MISS); else STALL");
        LateLines x = with(2, 1, 2, 4, 6);
        x.load(0, 0);
        check.due("a second", x.store(1, 0, 9), 2);
        often(x, 2, 2);
        check.due("a third", x.load(2, 0), 7);
        often(x, 2, 3);
        often(x, 4, 4);
        check.due("its time comes LONG TICKS from then on", x.fetch(1, 1), 6);
        check.due("fetch(1, 2)", x.fetch(1, 2), 1);
    }

    private static void atLast() {
        check.of("What is to be done can begin at last, however it is");
        LateLines x = with(1, 3, 1, 1, 20);
        x.store(0, 0, 9);
        check.due("of the BOX that is fetched, T 1", x.store(0, 1, 9), 21);
        check.due("load(4, 0)", x.load(4, 0), 22);
        check.due("of another BOX, F 1", x.load(8, 0), 42);
        where(x, 0, SHELVED);
        check.due("a FENCE behind all", x.fence(), 62);
        check.due("often(6)", x.often(6), 1);
        LateLines y = with(3, 3, 4, 4, 20);
        int before = 0;
        for (int i = 0; i < 200; i++) {
            int tick = i % 50 == 49 ? y.fence() : i % 2 == 0 ? y.store(i * 7 % 16, 0, i % 100) : y.load(i * 5 % 16, 1);
            check.due("call " + i + " began later than the one before", tick > before && tick <= before + 31 ? 1 : 0, 1);
            before = tick;
        }
    }
}
