/** What is refused counts once and changes nothing else: a busy object, and its like that was not asked. */
final class Refusals {
    private static final int[] FAR_OFF = {Integer.MIN_VALUE, Integer.MIN_VALUE + 1, -65536, -256, -2,
        256, 65536, Integer.MAX_VALUE - 1, Integer.MAX_VALUE};

    private final Check check;

    /** A call with one number in question. */
    interface Call {
        long on(LateLines x, int v);
    }

    Refusals(Check check) {
        this.check = check;
    }

    /** BOX 0 on THE SHELF, BOX 1 and 4 near, BOX 9 being fetched for two; six STATES and a TEXT. */
    static LateLines busy() {
        LateLines x = new LateLines();
        x.sets(0, 1);
        x.store(0, 0, 90);
        x.load(1, 1);
        x.ticks(6);
        x.load(4, 1);
        x.ticks(6);
        x.load(9, 2);
        x.store(9, 3, 77);
        for (char c : "a0;!;".toCharArray()) {
            x.type(c);
        }
        return x;
    }

    /** The number right below the least, right above the greatest, and far off are refused as BAD. */
    void beyond(String call, int least, int greatest, Call c) {
        check.due(call + " is BAD", least == Integer.MIN_VALUE ? 1 : refusal(c, least - 1), 1);
        check.due(call + " is BAD", greatest == Integer.MAX_VALUE ? 1 : refusal(c, greatest + 1), 1);
        for (int v : FAR_OFF) {
            if (v < least || v > greatest) {
                check.due(call + " with " + v + " is BAD", refusal(c, v), 1);
            }
        }
        for (int v : new int[] {least, greatest}) {
            LateLines x = busy();
            c.on(x, v);
            check.due(call + " with " + v + " is not refused: told(0)", x.told(0), 0);
        }
    }

    private static int refusal(Call c, int v) {
        LateLines x = busy();
        LateLines y = busy();
        boolean told = c.on(x, v) == -2 && x.told(0) == 1 && x.told(1) == 0 && x.told(2) == 0;
        boolean again = c.on(x, v) == -2 && x.told(0) == 2 && x.told(1) == 0 && x.told(2) == 0;
        return told && again && Picture.of(x).equals(Picture.of(y)) ? 1 : 0;
    }
}
