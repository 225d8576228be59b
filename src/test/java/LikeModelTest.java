/** Long runs of calls, the same on LateLines and on the Model; each answer has to be the same. */
public final class LikeModelTest {
    private static final Check check = new Check("like the model");
    private static final String SIGNS = "abcdefghijklmnop0123456789;;;;=!#   qA/:\t\u007f";

    private long dice;

    private LikeModelTest(long seed) {
        dice = seed * 2654435761L + 99;
    }

    public static void main(String[] args) {
        for (int run = 0; run < 400 && check.wrongSoFar() < 20; run++) {
            new LikeModelTest(run).calls(run);
        }
        for (int run = 0; run < 3000 && check.wrongSoFar() < 20; run++) {
            new LikeModelTest(1000 + run).texts(run);
        }
        check.finish();
    }

    private int roll(int n) {
        dice = dice * 6364136223846793005L + 1442695040888963407L;
        return (int) ((dice >>> 33) % n);
    }

    /** Mostly from least to greatest, now and then beside it, seldom far off. */
    private int number(int least, int greatest) {
        int kind = roll(60);
        if (kind == 0) {
            return least - 1;
        }
        if (kind == 1) {
            return greatest + 1;
        }
        if (kind == 2) {
            int[] odd = {Integer.MIN_VALUE, Integer.MAX_VALUE, -65536, 65536, -2, 255};
            return odd[roll(odd.length)];
        }
        return least + roll(greatest - least + 1);
    }

    private int box(int few) {
        return few == 0 ? number(0, 15) : 4 * number(0, 3) + few % 4;
    }

    private void calls(int run) {
        LateLines x = new LateLines();
        Model m = new Model();
        int few = roll(6);
        for (int i = 0; i < 512 && check.wrongSoFar() < 20; i++) {
            if (i == 3 && run % 2 == 0) {
                for (int what = 0; what < 5; what++) {
                    int v = number(0, what == 4 ? 20 : 4);
                    check.due("run " + run + " sets", x.sets(what, v), m.sets(what, v));
                    i++;
                }
            }
            String call = "run " + run + ", call " + i + ": ";
            if (roll(3) != 0) {
                doOne(call, x, m, few);
            } else if (roll(2) == 0) {
                askOne(call, x, m, few);
            } else {
                textOne(call, x, m);
            }
        }
        compareAll("run " + run + ", at the end: ", x, m);
    }

    private void doOne(String call, LateLines x, Model m, int few) {
        int b = box(few);
        int j = number(0, 3);
        int kind = roll(100);
        if (kind < 40) {
            check.due(call + "load(" + b + ", " + j + ")", x.load(b, j), m.load(b, j));
        } else if (kind < 75) {
            int v = number(0, 99);
            check.due(call + "store(" + b + ", " + j + ", " + v + ")", x.store(b, j, v), m.store(b, j, v));
        } else if (kind < 79) {
            check.due(call + "fence()", x.fence(), m.fence());
        } else if (kind < 90) {
            int n = roll(9) == 0 ? number(0, 99) : roll(9);
            check.due(call + "ticks(" + n + ")", x.ticks(n), m.ticks(n));
        } else if (kind < 92) {
            int seed = number(0, 999999);
            int n = number(1, 40);
            check.due(call + "draw(" + seed + ", " + n + ")", x.draw(seed, n), m.draw(seed, n));
        } else if (kind < 98) {
            check.due(call + "back()", x.back(), m.back());
        } else if (kind == 98) {
            int what = number(0, 4);
            int v = number(0, what == 4 ? 20 : 4);
            check.due(call + "sets(" + what + ", " + v + ")", x.sets(what, v), m.sets(what, v));
        } else if (roll(4) == 0) {
            check.due(call + "anew()", x.anew(), m.anew());
        }
    }

    private void askOne(String call, LateLines x, Model m, int few) {
        int b = box(few);
        int what = number(0, 2);
        int k = number(0, 3);
        check.due(call + "digest()", x.digest(), m.digest());
        check.due(call + "even()", x.even(), m.even());
        check.due(call + "cost(" + what + ")", x.cost(what), m.cost(what));
        check.due(call + "where(" + b + ")", x.where(b), m.where(b));
        check.due(call + "item(" + b + ", " + k + ", " + what + ")", x.item(b, k, what), m.item(b, k, what));
        check.due(call + "place(" + k + ", " + what + ")", x.place(k, what), m.place(k, what));
        check.due(call + "fetch(" + k + ", " + what + ")", x.fetch(k, what), m.fetch(k, what));
        int load = number(0, 220);
        check.due(call + "got(" + load + ", " + what + ")", x.got(load, what), m.got(load, what));
        int i = number(0, 9);
        check.due(call + "often(" + i + ")", x.often(i), m.often(i));
        check.due(call + "told(" + i + ")", x.told(i), m.told(i));
    }

    private void textOne(String call, LateLines x, Model m) {
        int kind = roll(40);
        if (kind == 0) {
            check.due(call + "clear()", x.clear(), m.clear());
        } else if (kind < 3) {
            check.due(call + "runs()", x.runs(), m.runs());
        } else if (kind < 6) {
            int what = number(0, 1);
            check.due(call + "best(" + what + ")", x.best(what), m.best(what));
        } else if (kind < 9) {
            int c = number(0, 127);
            check.due(call + "type(" + c + ")", x.type(c), m.type(c));
        } else {
            typeBoth(call, x, m, order());
        }
    }

    private void typeBoth(String call, LateLines x, Model m, String text) {
        for (int i = 0; i < text.length(); i++) {
            int c = text.charAt(i);
            check.due(call + "type(" + c + ")", x.type(c), m.type(c));
        }
    }

    private String blanks() {
        return roll(8) == 0 ? "  ".substring(roll(2)) : "";
    }

    private String figures() {
        return roll(2) == 0 ? String.valueOf(roll(10)) : "" + roll(10) + roll(10);
    }

    private String order() {
        StringBuilder s = new StringBuilder(blanks());
        int kind = roll(12);
        if (kind == 0) {
            s.append('!');
        } else if (kind == 1) {
            s.append('#').append(blanks()).append(figures());
        } else {
            s.append((char) ('a' + roll(16))).append(blanks()).append(roll(4));
            if (kind < 6) {
                s.append(blanks()).append('=').append(blanks()).append(figures());
            }
        }
        return s.append(blanks()).append(';').append(blanks()).toString();
    }

    /** Right TEXTS and such with a byte changed, dropped or put in. */
    private void texts(int run) {
        LateLines x = new LateLines();
        Model m = new Model();
        StringBuilder s = new StringBuilder();
        int orders = 1 + roll(12);
        for (int i = 0; i < orders; i++) {
            s.append(order());
        }
        for (int i = roll(4); i > 0; i--) {
            int at = roll(s.length());
            char sign = SIGNS.charAt(roll(SIGNS.length()));
            int kind = roll(3);
            if (kind == 0) {
                s.setCharAt(at, sign);
            } else if (kind == 1 && s.length() > 1) {
                s.deleteCharAt(at);
            } else {
                s.insert(at, sign);
            }
        }
        String call = "text " + run + " [" + s + "] ";
        typeBoth(call, x, m, s.toString());
        for (int what = 0; what < 5; what++) {
            int v = number(0, what == 4 ? 20 : 4);
            check.due(call + "sets(" + what + ", " + v + ")", x.sets(what, v), m.sets(what, v));
        }
        check.due(call + "best(0)", x.best(0), m.best(0));
        check.due(call + "best(1)", x.best(1), m.best(1));
        check.due(call + "runs()", x.runs(), m.runs());
        check.due(call + "runs()", x.runs(), m.runs());
        check.due(call + "digest()", x.digest(), m.digest());
    }

    private void compareAll(String call, LateLines x, Model m) {
        for (int k = 0; k < 201; k++) {
            for (int what = 0; what < 3; what++) {
                check.due(call + "got(" + k + ", " + what + ")", x.got(k, what), m.got(k, what));
            }
        }
        for (int b = 0; b < 16; b++) {
            for (int j = 0; j < 4; j++) {
                for (int what = 0; what < 3; what++) {
                    check.due(call + "item(" + b + ", " + j + ", " + what + ")", x.item(b, j, what), m.item(b, j, what));
                }
            }
        }
        for (int i = 0; i < 12; i++) {
            check.due(call + "place(" + i / 3 + ", " + i % 3 + ")", x.place(i / 3, i % 3), m.place(i / 3, i % 3));
            check.due(call + "fetch(" + i / 3 + ", " + i % 3 + ")", x.fetch(i / 3, i % 3), m.fetch(i / 3, i % 3));
        }
        check.due(call + "digest()", x.digest(), m.digest());
    }
}
