/** got, often, where, item, place, fetch. */
public final class Promises09To14Test {
    private static final Check check = new Check("promises 9 to 14");
    private static final int[] WRONG = {-1, 16, 1000, Integer.MIN_VALUE, Integer.MAX_VALUE};

    public static void main(String[] args) {
        got();
        gotOfTheFirst200();
        often();
        whereAndItem();
        itemOfAskersInOrder();
        place();
        fetch();
        nothingIsChangedByAsking();
        check.finish();
    }

    private static void got() {
        LateLines x = new LateLines();
        x.ticks(4);
        x.load(3, 2);
        x.store(3, 2, 70);
        check.due("got(0, 0)", x.got(0, 0), -1);
        check.due("got(0, 1)", x.got(0, 1), -1);
        check.due("got(0, 2)", x.got(0, 2), 5);
        check.due("got(1, 0)", x.got(1, 0), -1);
        x.ticks(5);
        x.load(3, 2);
        check.due("got(0, 0)", x.got(0, 0), 17);
        check.due("got(0, 1)", x.got(0, 1), 6);
        check.due("got(0, 2)", x.got(0, 2), 5);
        check.due("got(1, 0)", x.got(1, 0), 70);
        check.due("got(1, 1)", x.got(1, 1), 0);
        check.due("got(1, 2)", x.got(1, 2), 12);
        for (int k : new int[] {2, 199, 200, 201, Integer.MAX_VALUE}) {
            check.due("got(" + k + ", 0)", x.got(k, 0), -1);
        }
        check.due("got(-1, 0)", x.got(-1, 0), -2);
        check.due("got(MIN, 0)", x.got(Integer.MIN_VALUE, 0), -2);
        check.due("got(0, -1)", x.got(0, -1), -2);
        check.due("got(0, 3)", x.got(0, 3), -2);
        check.due("got(500, 3)", x.got(500, 3), -2);
        check.due("told(0)", x.told(0), 5);
        x.anew();
        check.due("got(0, 2) after anew", x.got(0, 2), -1);
    }

    private static void gotOfTheFirst200() {
        LateLines x = new LateLines();
        x.load(0, 0);
        x.ticks(6);
        for (int i = 1; i < 230; i++) {
            x.load(0, i % 4);
        }
        check.due("got(199, 0)", x.got(199, 0), 3);
        check.due("got(199, 1)", x.got(199, 1), 0);
        check.due("got(199, 2)", x.got(199, 2), 206);
        check.due("got(200, 0)", x.got(200, 0), -1);
        check.due("got(200, 2)", x.got(200, 2), -1);
        check.due("got(229, 2)", x.got(229, 2), -1);
        check.due("often(7)", x.often(7), 230);
        check.due("often(8)", x.often(8), 230);
        check.due("cost(1)", x.cost(1), Float.floatToIntBits(6f / 230f));
    }

    private static void often() {
        LateLines x = new LateLines();
        x.sets(0, 1);
        x.store(0, 0, 1);
        x.store(0, 1, 2);
        x.load(4, 0);
        x.load(4, 0);
        x.ticks(5);
        check.counts("on the way", x, 0, 2, 2, 0, 0, 0, 0, 2, 2, 9);
        x.load(0, 1);
        x.store(8, 0, 3);
        x.load(9, 0);
        x.load(10, 0);
        check.counts("behind it", x, 0, 2, 5, 1, 4, 0, 0, 5, 3, 17);
        x.ticks(3);
        check.counts("at last", x, 0, 2, 5, 1, 4, 0, 1, 5, 4, 20);
        for (int w : WRONG) {
            check.due("often(" + w + ")", x.often(w), -2);
        }
        check.due("often(10)", x.often(10), -2);
        check.due("told(0)", x.told(0), 6);
    }

    private static void whereAndItem() {
        LateLines x = new LateLines();
        x.sets(0, 1);
        x.store(15, 3, 44);
        check.due("where(15)", x.where(15), 3);
        check.due("item(15, 3, 0)", x.item(15, 3, 0), 78);
        check.due("item(15, 3, 1)", x.item(15, 3, 1), 44);
        check.due("item(15, 3, 2)", x.item(15, 3, 2), 0);
        x.load(11, 0);
        x.ticks(5);
        check.due("where(15)", x.where(15), 1);
        check.due("item(15, 3, 0)", x.item(15, 3, 0), 78);
        check.due("item(15, 3, 1)", x.item(15, 3, 1), 44);
        check.due("item(15, 3, 2)", x.item(15, 3, 2), 1);
        x.ticks(1);
        check.due("where(15)", x.where(15), 2);
        check.due("where(11)", x.where(11), 1);
        check.due("item(15, 3, 2)", x.item(15, 3, 2), 1);
        x.ticks(3);
        check.due("where(15)", x.where(15), 0);
        check.due("item(15, 3, 0)", x.item(15, 3, 0), 44);
        check.due("item(15, 3, 1)", x.item(15, 3, 1), 44);
        check.due("item(15, 3, 2)", x.item(15, 3, 2), 0);
        x.load(15, 3);
        x.ticks(6);
        check.due("fetched again: item(15, 3, 1)", x.item(15, 3, 1), 44);
        check.due("fetched again: item(15, 3, 2)", x.item(15, 3, 2), 0);
        for (int w : WRONG) {
            check.due("where(" + w + ")", x.where(w), -2);
            check.due("item(" + w + ", 0, 0)", x.item(w, 0, 0), -2);
            check.due("item(0, " + w + ", 0)", x.item(0, w, 0), -2);
            check.due("item(0, 0, " + w + ")", x.item(0, 0, w), -2);
        }
        check.due("item(0, 4, 0)", x.item(0, 4, 0), -2);
        check.due("item(0, 0, 3)", x.item(0, 0, 3), -2);
        check.due("told(0)", x.told(0), 22);
    }

    private static void itemOfAskersInOrder() {
        LateLines x = new LateLines();
        x.sets(3, 4);
        x.store(7, 0, 10);
        check.due("item(7, 0, 1)", x.item(7, 0, 1), 10);
        x.store(7, 1, 0);
        check.due("item(7, 1, 1)", x.item(7, 1, 1), 0);
        x.store(7, 0, 30);
        check.due("item(7, 0, 1)", x.item(7, 0, 1), 30);
        x.load(7, 0);
        check.due("item(7, 0, 1)", x.item(7, 0, 1), 30);
        check.due("item(7, 2, 1)", x.item(7, 2, 1), 37);
        x.ticks(3);
        check.due("got(0, 0)", x.got(0, 0), 30);
        check.due("got(0, 1)", x.got(0, 1), 3);
        check.due("item(7, 1, 1)", x.item(7, 1, 1), 0);
    }

    private static void place() {
        LateLines x = new LateLines();
        x.sets(0, 3);
        x.sets(2, 4);
        x.load(1, 0);
        x.load(5, 0);
        x.load(9, 0);
        check.due("place(1, 0)", x.place(1, 0), -1);
        x.ticks(4);
        check.due("place(1, 0)", x.place(1, 0), 1);
        check.due("place(1, 1)", x.place(1, 1), -1);
        x.ticks(9);
        for (int k = 0; k < 3; k++) {
            check.due("place(1, " + k + ")", x.place(1, k), 9 - 4 * k);
            check.due("place(0, " + k + ")", x.place(0, k), -1);
        }
        x.store(5, 0, 1);
        check.due("place(1, 0)", x.place(1, 0), 5);
        check.due("place(1, 1)", x.place(1, 1), 9);
        check.due("place(1, 2)", x.place(1, 2), 1);
        for (int w : WRONG) {
            check.due("place(" + w + ", 0)", x.place(w, 0), -2);
            check.due("place(0, " + w + ")", x.place(0, w), -2);
        }
        check.due("place(4, 0)", x.place(4, 0), -2);
        check.due("place(0, 3)", x.place(0, 3), -2);
        check.due("told(0)", x.told(0), 12);
    }

    private static void fetch() {
        LateLines x = new LateLines();
        x.sets(2, 4);
        int[] boxes = {14, 3, 9, 0};
        for (int b : boxes) {
            x.load(b, 0);
        }
        x.store(9, 1, 1);
        for (int k = 0; k < 4; k++) {
            check.due("fetch(" + k + ", 0)", x.fetch(k, 0), boxes[k]);
            check.due("fetch(" + k + ", 1)", x.fetch(k, 1), 2 + k);
            check.due("fetch(" + k + ", 2)", x.fetch(k, 2), k == 2 ? 2 : 1);
        }
        check.due("fetch(4, 0)", x.fetch(4, 0), -1);
        x.ticks(3);
        check.due("fetch(0, 0)", x.fetch(0, 0), 9);
        check.due("fetch(0, 1)", x.fetch(0, 1), 1);
        check.due("fetch(1, 0)", x.fetch(1, 0), 0);
        for (int k : new int[] {2, 3, 4, 1000, Integer.MAX_VALUE}) {
            check.due("fetch(" + k + ", 0)", x.fetch(k, 0), -1);
        }
        check.due("fetch(-1, 0)", x.fetch(-1, 0), -2);
        check.due("fetch(MIN, 0)", x.fetch(Integer.MIN_VALUE, 0), -2);
        check.due("fetch(0, -1)", x.fetch(0, -1), -2);
        check.due("fetch(0, 3)", x.fetch(0, 3), -2);
        check.due("fetch(9, 3)", x.fetch(9, 3), -2);
        check.due("told(0)", x.told(0), 5);
    }

    private static void nothingIsChangedByAsking() {
        LateLines x = new LateLines();
        x.draw(5, 30);
        long before = x.digest();
        for (int i = 0; i < 3; i++) {
            x.got(i, i);
            x.often(i);
            x.where(i);
            x.item(i, i, i);
            x.place(i, i);
            x.fetch(i, i);
            x.cost(i);
            x.even();
            x.told(i);
        }
        check.due("digest()", x.digest(), before);
    }
}
