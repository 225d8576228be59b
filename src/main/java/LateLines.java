/**
 * A small store near at hand in front of a great one far off, that goes on while it waits.
 * What the words mean is told in DOC.md; README.md says how to use the class.
 */
public final class LateLines {
    public static final int NONE = -1, BAD = -2, NO = -3, FULL = -4;

    private static final int BOXES = 16, ITEMS = 4, ROWS = 4, MOST_PLACES = 3;
    private static final int MOST_VALUE = 99, MOST_IDLE = 99, MOST_SEED = 999999, MOST_DRAWN = 40;
    private static final int MOST_ASKERS = 4, MOST_FETCHES = 4, MOST_STATES = 6, MOST_LOADS = 200;
    private static final int MOST_BYTES = 120, MOST_BYTE = 127, MOST_ORDERS = 60;

    // What sets() sets, by its number, and between which bounds.
    private static final int PLACES = 0, SHELF = 1, FETCHES = 2, ASKERS = 3, LONG = 4;
    private static final int[] AT_FIRST = {2, 1, 2, 2, 6};
    private static final int[] LEAST = {1, 0, 1, 1, 1};
    private static final int[] GREATEST = {3, 3, 4, 4, 20};

    // What often() tells, by its number.
    private static final int HITS = 0, JOINS = 1, MISSES = 2, BACKS = 3, STALLS = 4, HASTE = 5;
    private static final int GONE_FAR = 6, BEGUN = 7, ANSWERED = 8, TICKS = 9, COUNTS = 10;

    // What where() tells.
    private static final int FAR = 0, NEAR = 1, SHELVED = 2, COMING = 3;

    // Instead of the value of a STORE, and instead of the BOX of an ORDER.
    private static final int A_LOAD = -1, A_FENCE = -1, A_PAUSE = -2;

    // No wait can come near to it: all that is under way comes within 20 TICKS, what goes then within 10.
    private static final int MOST_STALLS = 1000;
    private static final int NEVER = 2000000000;

    private final State now;
    private final State trial;
    private final State[] kept;
    private final Text text;
    private final int[] refused;
    private int newest;
    private int states;

    public LateLines() {
        now = new State();
        trial = new State();
        kept = new State[MOST_STATES];
        for (int i = 0; i < MOST_STATES; i++) {
            kept[i] = new State();
        }
        text = new Text();
        refused = new int[3];
        newest = 0;
        states = 0;
    }

    // ---- what is told

    public int sets(int what, int v) {
        if (what < 0 || what >= LEAST.length || v < LEAST[what] || v > GREATEST[what]) {
            return refuse(BAD);
        }
        keep();
        int old = now.limits[what];
        now.limits[what] = v;
        now.renew();
        return old;
    }

    public int anew() {
        keep();
        int gone = now.counts[TICKS];
        now.renew();
        return gone;
    }

    // ---- what is done

    public int load(int box, int item) {
        if (!isBox(box) || !isItem(item)) {
            return refuse(BAD);
        }
        keep();
        return now.begin(now.boxes[box], item, A_LOAD);
    }

    public int store(int box, int item, int v) {
        if (!isBox(box) || !isItem(item) || v < 0 || v > MOST_VALUE) {
            return refuse(BAD);
        }
        keep();
        return now.begin(now.boxes[box], item, v);
    }

    public int fence() {
        keep();
        return now.begin(null, 0, A_LOAD);
    }

    public int ticks(int n) {
        if (n < 0 || n > MOST_IDLE) {
            return refuse(BAD);
        }
        keep();
        int before = now.counts[ANSWERED];
        now.pause(n);
        return now.counts[ANSWERED] - before;
    }

    public int draw(int seed, int n) {
        if (seed < 0 || seed > MOST_SEED || n < 1 || n > MOST_DRAWN) {
            return refuse(BAD);
        }
        keep();
        int before = now.counts[TICKS];
        long x = seed;
        for (int i = 0; i < n; i++) {
            x = (x * 1103515245L + 12345L) % 2147483648L;
            int box = (int) (x / 65536L % 16L);
            int item = (int) (x / 1024L % 4L);
            int value = x / 32768L % 3L == 0L ? (int) (x / 2048L % 100L) : A_LOAD;
            if (isBox(box)) {
                now.begin(now.boxes[box], item, value);
            }
        }
        return now.counts[TICKS] - before;
    }

    // ---- what came of it

    public int got(int k, int what) {
        if (k < 0 || what < 0 || what > 2) {
            return refuse(BAD);
        }
        Loads loads = now.loads;
        if (k >= loads.known || k >= MOST_LOADS) {
            return NONE;
        }
        return what == 0 ? loads.gave[k] : what == 1 ? loads.waited[k] : loads.began[k];
    }

    public int often(int what) {
        if (what < 0 || what >= COUNTS) {
            return refuse(BAD);
        }
        return now.counts[what];
    }

    public int where(int box) {
        if (!isBox(box)) {
            return refuse(BAD);
        }
        return now.boxes[box].spot;
    }

    public int item(int box, int j, int what) {
        if (!isBox(box) || !isItem(j) || what < 0 || what > 2) {
            return refuse(BAD);
        }
        Box b = now.boxes[box];
        if (what == 0) {
            return b.far[j];
        }
        return what == 1 ? b.valueAtLast(j) : b.changedBit(j);
    }

    public int place(int r, int k) {
        if (r < 0 || r >= ROWS || k < 0 || k >= MOST_PLACES) {
            return refuse(BAD);
        }
        return now.boxInPlace(r, k);
    }

    public int fetch(int k, int what) {
        if (k < 0 || what < 0 || what > 2) {
            return refuse(BAD);
        }
        Box b = now.boxOfFetch(k);
        if (b == null) {
            return NONE;
        }
        return what == 0 ? b.number : what == 1 ? b.due - now.counts[TICKS] : b.askers;
    }

    public int cost(int what) {
        if (what < 0 || what > 2) {
            return refuse(BAD);
        }
        Loads loads = now.loads;
        return floatBits(what == 0 ? now.cost : what == 1 ? loads.meanWait() : (float) loads.greatest);
    }

    public long even() {
        return doubleBits(now.loads.spread());
    }

    public int best(int what) {
        if (what < 0 || what > 1) {
            return refuse(BAD);
        }
        int fault = text.readOrders();
        if (fault != NONE) {
            return -10 - fault;
        }
        int which = 0;
        int fewest = NEVER;
        for (int f = 1; f <= MOST_FETCHES; f++) {
            trial.startTrial(now.limits, f);
            trial.carryOut(text);
            trial.awaitFetches();
            if (trial.counts[TICKS] < fewest) {
                which = f;
                fewest = trial.counts[TICKS];
            }
        }
        return what == 0 ? which : fewest;
    }

    // ---- texts

    public int type(int c) {
        if (c < 0 || c > MOST_BYTE) {
            return refuse(BAD);
        }
        if (text.length < 0 || text.length >= MOST_BYTES) {
            return refuse(FULL);
        }
        text.bytes[text.length] = c;
        text.length++;
        return text.length;
    }

    public int clear() {
        int had = text.length;
        text.length = 0;
        return had;
    }

    public int runs() {
        int fault = text.readOrders();
        if (fault != NONE) {
            return -10 - fault;
        }
        keep();
        int before = now.counts[TICKS];
        now.carryOut(text);
        return now.counts[TICKS] - before;
    }

    public int back() {
        if (states <= 0 || newest < 0 || newest >= MOST_STATES) {
            return refuse(NO);
        }
        now.become(kept[newest]);
        newest = (newest + MOST_STATES - 1) % MOST_STATES;
        states--;
        return states;
    }

    public int told(int what) {
        if (what < 0 || what > 9) {
            return refuse(BAD);
        }
        if (what < 3) {
            return refused[what];
        }
        if (what == 3) {
            return text.length;
        }
        return what == 9 ? states : now.limits[what - 4];
    }

    public long digest() {
        long h = 2087L;
        for (int i = 0; i <= 9; i++) {
            h = 31L * h + told(i);
        }
        for (int i = 0; i < COUNTS; i++) {
            h = 31L * h + often(i);
        }
        for (int b = 0; b < BOXES; b++) {
            for (int j = 0; j < ITEMS; j++) {
                h = 31L * h + item(b, j, 0);
            }
        }
        for (int b = 0; b < BOXES; b++) {
            h = 31L * h + where(b);
        }
        h = 31L * h + cost(0);
        h = 31L * h + cost(1);
        return 31L * h + even();
    }

    // ---- what the calls share

    private static boolean isBox(int box) {
        return box >= 0 && box < BOXES;
    }

    private static boolean isItem(int item) {
        return item >= 0 && item < ITEMS;
    }

    private int refuse(int answer) {
        int kind = BAD - answer;
        if (kind >= 0 && kind < refused.length) {
            refused[kind]++;
        }
        return answer;
    }

    /** The oldest STATE is overwritten when there are six: the row goes round. */
    private void keep() {
        newest = (newest + 1) % MOST_STATES;
        if (newest >= 0) {
            kept[newest].become(now);
        }
        if (states < MOST_STATES) {
            states++;
        }
    }

    /** By hand, as the library's own function is not among those that LANGUAGE.md lists. */
    private static int floatBits(float x) {
        float size = x < 0f ? -x : x;
        int exponent = 127;
        for (int i = 0; i < 300 && size >= 2f; i++) {
            size = size * 0.5f;
            exponent++;
        }
        for (int i = 0; i < 300 && size > 0f && size < 1f && exponent > 1; i++) {
            size = size * 2f;
            exponent--;
        }
        int bits = size < 1f ? (int) (size * 8388608f) : exponent << 23 | (int) ((size - 1f) * 8388608f);
        return x < 0f ? bits | 1 << 31 : bits;
    }

    private static long doubleBits(double x) {
        double size = x < 0.0 ? -x : x;
        long exponent = 1023L;
        for (int i = 0; i < 1100 && size >= 2.0; i++) {
            size = size * 0.5;
            exponent++;
        }
        for (int i = 0; i < 1100 && size > 0.0 && size < 1.0 && exponent > 1L; i++) {
            size = size * 2.0;
            exponent--;
        }
        long bits = size < 1.0 ? (long) (size * 4503599627370496.0)
                : exponent << 52 | (long) ((size - 1.0) * 4503599627370496.0);
        return x < 0.0 ? bits | 1L << 63 : bits;
    }

    /** One BOX, wherever it is, with those who ask for it while it is being fetched. */
    private static final class Box {
        private final int number;
        private final int[] far;
        private final int[] held;
        private final int[] askItem;
        private final int[] askValue;
        private final int[] askLoad;
        private final int[] askTick;
        private int askers;
        private int spot;
        private int changed;
        private int due;
        private int used;

        private Box(int number) {
            this.number = number;
            far = new int[ITEMS];
            held = new int[ITEMS];
            askItem = new int[MOST_ASKERS];
            askValue = new int[MOST_ASKERS];
            askLoad = new int[MOST_ASKERS];
            askTick = new int[MOST_ASKERS];
        }

        private void renew() {
            for (int j = 0; j < ITEMS; j++) {
                far[j] = 5 * number + j;
            }
            askers = 0;
            spot = FAR;
            changed = 0;
            due = NEVER;
            used = 0;
        }

        private void become(Box other) {
            System.arraycopy(other.far, 0, far, 0, ITEMS);
            System.arraycopy(other.held, 0, held, 0, ITEMS);
            System.arraycopy(other.askItem, 0, askItem, 0, MOST_ASKERS);
            System.arraycopy(other.askValue, 0, askValue, 0, MOST_ASKERS);
            System.arraycopy(other.askLoad, 0, askLoad, 0, MOST_ASKERS);
            System.arraycopy(other.askTick, 0, askTick, 0, MOST_ASKERS);
            askers = other.askers;
            spot = other.spot;
            changed = other.changed;
            due = other.due;
            used = other.used;
        }

        private int changedBit(int item) {
            return changed >> item & 1;
        }

        /** What is to be laid in when the BOX comes counts too, the last of it most. */
        private int valueAtLast(int item) {
            if (item < 0 || item >= ITEMS) {
                return 0;
            }
            if (spot == NEAR || spot == SHELVED) {
                return held[item];
            }
            int value = far[item];
            for (int i = 0; i < askers && i < MOST_ASKERS; i++) {
                if (askItem[i] == item && askValue[i] != A_LOAD) {
                    value = askValue[i];
                }
            }
            return value;
        }

        private void addAsker(int item, int value, int load, int tick) {
            if (askers < 0 || askers >= MOST_ASKERS) {
                return;
            }
            askItem[askers] = item;
            askValue[askers] = value;
            askLoad[askers] = load;
            askTick[askers] = tick;
            askers++;
        }

        private void takeFromFar() {
            System.arraycopy(far, 0, held, 0, ITEMS);
            changed = 0;
        }

        /** CHANGED ITEMS alone are written; the others are FAR as they are. */
        private void goFar() {
            for (int j = 0; j < ITEMS; j++) {
                if ((changed >> j & 1) == 1) {
                    far[j] = held[j];
                }
            }
            spot = FAR;
            changed = 0;
            due = NEVER;
        }

        private void layIn(int item, int value) {
            if (item >= 0 && item < ITEMS) {
                held[item] = value;
                changed |= 1 << item;
            }
        }
    }

    /** What became of the LOADS. */
    private static final class Loads {
        private final int[] gave;
        private final int[] waited;
        private final int[] began;
        private int known;
        private int answered;
        private int greatest;
        private long sum;
        private long squares;

        private Loads() {
            gave = new int[MOST_LOADS];
            waited = new int[MOST_LOADS];
            began = new int[MOST_LOADS];
        }

        private void renew() {
            known = 0;
            answered = 0;
            greatest = 0;
            sum = 0L;
            squares = 0L;
        }

        private void become(Loads other) {
            int n = Math.max(0, Math.min(other.known, MOST_LOADS));
            System.arraycopy(other.gave, 0, gave, 0, n);
            System.arraycopy(other.waited, 0, waited, 0, n);
            System.arraycopy(other.began, 0, began, 0, n);
            known = other.known;
            answered = other.answered;
            greatest = other.greatest;
            sum = other.sum;
            squares = other.squares;
        }

        /** Answers the LOAD's number; NONE behind the last that is kept. */
        private int add(int tick) {
            if (known < 0 || known >= MOST_LOADS) {
                return NONE;
            }
            gave[known] = NONE;
            waited[known] = NONE;
            began[known] = tick;
            known++;
            return known - 1;
        }

        private void answer(int load, int value, int wait) {
            if (load >= 0 && load < MOST_LOADS) {
                gave[load] = value;
                waited[load] = wait;
            }
            answered++;
            greatest = wait > greatest ? wait : greatest;
            sum += wait;
            squares += (long) wait * wait;
        }

        private float meanWait() {
            return answered <= 0 ? 0f : (float) sum / (float) answered;
        }

        private double spread() {
            if (answered <= 0) {
                return 0.0;
            }
            double mean = (double) sum / (double) answered;
            return (double) squares / (double) answered - mean * mean;
        }
    }

    /** All that back() brings back; the same TICKS go by in it whether for good or on trial. */
    private static final class State {
        private final int[] limits;
        private final int[] counts;
        private final Box[] boxes;
        private final Loads loads;
        private float cost;
        private int fetches;
        private int shelved;
        private int uses;
        private int soonest;

        private State() {
            limits = new int[AT_FIRST.length];
            System.arraycopy(AT_FIRST, 0, limits, 0, AT_FIRST.length);
            counts = new int[COUNTS];
            boxes = new Box[BOXES];
            for (int b = 0; b < BOXES; b++) {
                boxes[b] = new Box(b);
            }
            loads = new Loads();
            renew();
        }

        /** As at first, but for the limits. */
        private void renew() {
            for (int i = 0; i < COUNTS; i++) {
                counts[i] = 0;
            }
            for (Box box : boxes) {
                box.renew();
            }
            loads.renew();
            cost = 0f;
            fetches = 0;
            shelved = 0;
            uses = 0;
            soonest = NEVER;
        }

        private void become(State other) {
            System.arraycopy(other.limits, 0, limits, 0, AT_FIRST.length);
            System.arraycopy(other.counts, 0, counts, 0, COUNTS);
            for (int b = 0; b < BOXES; b++) {
                boxes[b].become(other.boxes[b]);
            }
            loads.become(other.loads);
            cost = other.cost;
            fetches = other.fetches;
            shelved = other.shelved;
            uses = other.uses;
            soonest = other.soonest;
        }

        /** TICKS go by until it can begin; a FENCE has no BOX. Answers the TICK at which it began. */
        private int begin(Box box, int item, int value) {
            for (int i = 0; i < MOST_STALLS; i++) {
                pass();
                boolean begun = box == null ? fetches == 0 && shelved == 0 : ask(box, item, value);
                if (begun) {
                    return counts[TICKS];
                }
                tally(STALLS, 0.1f);
            }
            return counts[TICKS];
        }

        private void pause(int n) {
            for (int i = 0; i < n && i < MOST_IDLE; i++) {
                pass();
            }
        }

        private void carryOut(Text text) {
            for (int i = 0; i < text.orders && i < MOST_ORDERS; i++) {
                int box = text.orderBox[i];
                if (box == A_PAUSE) {
                    pause(text.orderNumber[i]);
                } else {
                    begin(isBox(box) ? boxes[box] : null, text.orderItem[i], text.orderNumber[i]);
                }
            }
        }

        private void startTrial(int[] others, int f) {
            System.arraycopy(others, 0, limits, 0, AT_FIRST.length);
            limits[FETCHES] = f;
            renew();
        }

        private void awaitFetches() {
            for (int i = 0; i < MOST_STALLS && fetches > 0; i++) {
                pass();
            }
        }

        private void tally(int what, float price) {
            if (what >= 0 && what < COUNTS) {
                counts[what]++;
            }
            cost += price;
        }

        /** One TICK goes by. On most nothing is due, so the BOXES are looked through only when something is. */
        private void pass() {
            counts[TICKS]++;
            int tick = counts[TICKS];
            if (tick < soonest) {
                return;
            }
            for (Box box : boxes) {
                if (box.spot == SHELVED && box.due <= tick) {
                    shelved--;
                    box.goFar();
                    tally(GONE_FAR, 3.3f);
                }
            }
            for (Box box : boxes) {
                if (box.spot == COMING && box.due <= tick) {
                    come(box);
                }
            }
            soonest = NEVER;
            for (Box box : boxes) {
                soonest = Math.min(soonest, box.due);
            }
        }

        private void come(Box box) {
            fetches--;
            box.takeFromFar();
            settle(box);
            for (int i = 0; i < box.askers && i < MOST_ASKERS; i++) {
                serve(box, box.askItem[i], box.askValue[i], box.askLoad[i], box.askTick[i]);
            }
            box.askers = 0;
        }

        /** The BOX gets a PLACE in its ROW; where none is free, another has to go. */
        private void settle(Box box) {
            Box out = whoMustGo(box.number % ROWS);
            if (out != null && out.changed == 0) {
                out.goFar();
            } else if (out != null && shelved < limits[SHELF]) {
                shelved++;
                out.spot = SHELVED;
                setDue(out, Math.max(1, limits[LONG] / 2));
            } else if (out != null) {
                counts[HASTE]++;
                out.goFar();
                tally(GONE_FAR, 3.3f);
            }
            box.spot = NEAR;
            box.due = NEVER;
            use(box);
        }

        /** The BOX of the ROW that was used least lately; null, if a PLACE is free. */
        private Box whoMustGo(int row) {
            if (row < 0) {
                return null;
            }
            Box oldest = null;
            int taken = 0;
            for (int b = row; b < BOXES; b += ROWS) {
                Box box = boxes[b];
                if (box.spot == NEAR) {
                    taken++;
                    oldest = oldest == null || box.used < oldest.used ? box : oldest;
                }
            }
            return taken < limits[PLACES] ? null : oldest;
        }

        private void use(Box box) {
            uses++;
            box.used = uses;
        }

        private void setDue(Box box, int wait) {
            box.due = counts[TICKS] + wait;
            soonest = box.due < soonest ? box.due : soonest;
        }

        /** Whether the LOAD or STORE could begin. */
        private boolean ask(Box box, int item, int value) {
            if (box.spot == NEAR) {
                use(box);
                tally(HITS, 1.5f);
            } else if (box.spot == SHELVED) {
                // It leaves THE SHELF first, so what goes in its stead finds room there.
                shelved--;
                settle(box);
                tally(BACKS, 2.125f);
            } else if (box.spot == COMING) {
                if (box.askers >= limits[ASKERS]) {
                    return false;
                }
                tally(JOINS, 0.25f);
            } else {
                if (fetches >= limits[FETCHES]) {
                    return false;
                }
                fetches++;
                box.spot = COMING;
                setDue(box, limits[LONG]);
                tally(MISSES, 4.75f);
            }
            takeAsker(box, item, value);
            return true;
        }

        private void takeAsker(Box box, int item, int value) {
            int load = NONE;
            if (value == A_LOAD) {
                counts[BEGUN]++;
                load = loads.add(counts[TICKS]);
            }
            if (box.spot == NEAR) {
                serve(box, item, value, load, counts[TICKS]);
            } else {
                box.addAsker(item, value, load, counts[TICKS]);
            }
        }

        private void serve(Box box, int item, int value, int load, int began) {
            if (value == A_LOAD) {
                counts[ANSWERED]++;
                loads.answer(load, box.valueAtLast(item), counts[TICKS] - began);
            } else {
                box.layIn(item, value);
            }
        }

        /** The BOX before which k others of its ROW were used; NONE: none. */
        private int boxInPlace(int row, int k) {
            if (row < 0) {
                return NONE;
            }
            for (int b = row; b < BOXES; b += ROWS) {
                int later = 0;
                for (int c = row; c < BOXES; c += ROWS) {
                    later += boxes[c].spot == NEAR && boxes[c].used > boxes[b].used ? 1 : 0;
                }
                if (boxes[b].spot == NEAR && later == k) {
                    return b;
                }
            }
            return NONE;
        }

        /** All FETCHES take equally long and no two begin at one TICK: what began first is due first. */
        private Box boxOfFetch(int k) {
            for (Box box : boxes) {
                int earlier = 0;
                for (Box other : boxes) {
                    earlier += other.spot == COMING && other.due < box.due ? 1 : 0;
                }
                if (box.spot == COMING && earlier == k) {
                    return box;
                }
            }
            return null;
        }
    }

    /** THE TEXT, and the ORDERS that were last read from it. */
    private static final class Text {
        private final int[] bytes;
        private final int[] orderBox;
        private final int[] orderItem;
        private final int[] orderNumber;
        private int length;
        private int orders;
        private int at;
        private int fault;

        private Text() {
            bytes = new int[MOST_BYTES];
            orderBox = new int[MOST_ORDERS];
            orderItem = new int[MOST_ORDERS];
            orderNumber = new int[MOST_ORDERS];
        }

        /** Answers the FAULT; NONE, if there is none. */
        private int readOrders() {
            orders = 0;
            at = 0;
            fault = NONE;
            if (peek() < 0) {
                fault = at;
            }
            for (int i = 0; i < MOST_BYTES && fault == NONE && peek() >= 0; i++) {
                readOrder();
            }
            return fault;
        }

        /** The next byte that is no blank, left where it stands; -1 at the end. */
        private int peek() {
            for (int i = 0; i < MOST_BYTES && byteAt(at) == 32; i++) {
                at++;
            }
            return byteAt(at);
        }

        private int byteAt(int i) {
            return i >= 0 && i < length && i < MOST_BYTES ? bytes[i] : -1;
        }

        private void readOrder() {
            int c = peek();
            if (c >= 'a' && c <= 'p') {
                at++;
                readAsking(c - 'a');
            } else if (c == '!') {
                at++;
                addOrder(A_FENCE, 0, 0);
            } else if (c == '#') {
                at++;
                addOrder(A_PAUSE, 0, readNumber());
            } else {
                fault = at;
            }
            if (fault == NONE && peek() != ';') {
                fault = at;
            }
            at++;
        }

        private void readAsking(int box) {
            int item = peek() - '0';
            if (!isItem(item)) {
                fault = at;
                return;
            }
            at++;
            int value = A_LOAD;
            if (peek() == '=') {
                at++;
                value = readNumber();
            }
            addOrder(box, item, value);
        }

        private int readNumber() {
            peek();
            int first = at;
            int number = 0;
            for (int i = 0; i < MOST_BYTES && isFigure(byteAt(at)); i++) {
                number = i < 2 ? 10 * number + byteAt(at) - '0' : number;
                at++;
            }
            if (at == first || at > first + 2) {
                fault = first;
            }
            return number;
        }

        private static boolean isFigure(int c) {
            return c >= '0' && c <= '9';
        }

        private void addOrder(int box, int item, int number) {
            if (orders >= 0 && orders < MOST_ORDERS) {
                orderBox[orders] = box;
                orderItem[orders] = item;
                orderNumber[orders] = number;
                orders++;
            }
        }
    }
}
