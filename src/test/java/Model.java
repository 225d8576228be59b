import java.util.ArrayDeque;
import java.util.ArrayList;
import java.util.List;
import java.util.regex.Matcher;
import java.util.regex.Pattern;

/**
 * The document once more, with lists in place of LateLines' rows of numbers, and with the library.
 * Slow and plain: it is there to be compared with.
 */
final class Model {
    private static final Pattern ORDER = Pattern.compile(" *(?:([a-p]) *([0-3])(?: *= *([0-9]{1,2}))?|(!)|# *([0-9]{1,2})) *;");
    private static final Pattern WHOLE = Pattern.compile("(?: *(?:[a-p] *[0-3](?: *= *[0-9]{1,2})?|!|# *[0-9]{1,2}) *;)+ *");
    private static final int[][] BOUNDS = {{1, 3}, {0, 3}, {1, 4}, {1, 4}, {1, 20}};

    private static final class Asker {
        int item;
        Integer value;
        Got load;
        int began;
    }

    private static final class Got {
        int value = -1;
        int waited = -1;
        int began;
    }

    private static final class Line {
        int box;
        int[] items;
        boolean[] changed = new boolean[4];
        int due;

        boolean isChanged() {
            return changed[0] || changed[1] || changed[2] || changed[3];
        }
    }

    private static final class Fetch {
        int box;
        int due;
        List<Asker> askers = new ArrayList<>();
    }

    private static final class World {
        int[] set = {2, 1, 2, 2, 6};
        int[][] far = new int[16][4];
        List<List<Line>> rows = new ArrayList<>();
        List<Line> shelf = new ArrayList<>();
        List<Fetch> fetches = new ArrayList<>();
        List<Got> loads = new ArrayList<>();
        int[] often = new int[10];
        float cost;

        World(int[] set) {
            this.set = set.clone();
            for (int b = 0; b < 16; b++) {
                for (int j = 0; j < 4; j++) {
                    far[b][j] = 5 * b + j;
                }
            }
            for (int r = 0; r < 4; r++) {
                rows.add(new ArrayList<>());
            }
        }

        World copy() {
            World w = new World(set);
            w.often = often.clone();
            w.cost = cost;
            java.util.Map<Got, Got> same = new java.util.IdentityHashMap<>();
            for (Got g : loads) {
                Got n = new Got();
                n.value = g.value;
                n.waited = g.waited;
                n.began = g.began;
                same.put(g, n);
                w.loads.add(n);
            }
            for (int b = 0; b < 16; b++) {
                w.far[b] = far[b].clone();
            }
            for (int r = 0; r < 4; r++) {
                for (Line l : rows.get(r)) {
                    w.rows.get(r).add(copy(l));
                }
            }
            for (Line l : shelf) {
                w.shelf.add(copy(l));
            }
            for (Fetch f : fetches) {
                Fetch n = new Fetch();
                n.box = f.box;
                n.due = f.due;
                for (Asker a : f.askers) {
                    Asker m = new Asker();
                    m.item = a.item;
                    m.value = a.value;
                    m.began = a.began;
                    m.load = a.load == null ? null : same.get(a.load);
                    n.askers.add(m);
                }
                w.fetches.add(n);
            }
            return w;
        }

        private static Line copy(Line l) {
            Line n = new Line();
            n.box = l.box;
            n.items = l.items.clone();
            n.changed = l.changed.clone();
            n.due = l.due;
            return n;
        }

        Line near(int box) {
            return find(rows.get(box % 4), box);
        }

        static Line find(List<Line> lines, int box) {
            for (Line l : lines) {
                if (l.box == box) {
                    return l;
                }
            }
            return null;
        }

        Fetch fetchOf(int box) {
            for (Fetch f : fetches) {
                if (f.box == box) {
                    return f;
                }
            }
            return null;
        }

        void tick() {
            often[9]++;
            for (int b = 0; b < 16; b++) {
                Line l = find(shelf, b);
                if (l != null && l.due == often[9]) {
                    shelf.remove(l);
                    writeFar(l);
                }
            }
            for (int b = 0; b < 16; b++) {
                Fetch f = fetchOf(b);
                if (f != null && f.due == often[9]) {
                    fetches.remove(f);
                    Line l = new Line();
                    l.box = b;
                    l.items = far[b].clone();
                    comesNear(l, f.askers);
                }
            }
        }

        void writeFar(Line l) {
            for (int j = 0; j < 4; j++) {
                if (l.changed[j]) {
                    far[l.box][j] = l.items[j];
                }
            }
            often[6]++;
            cost += 3.3f;
        }

        void comesNear(Line l, List<Asker> askers) {
            List<Line> row = rows.get(l.box % 4);
            if (row.size() >= set[0]) {
                Line out = row.remove(row.size() - 1);
                if (out.isChanged()) {
                    if (shelf.size() < set[1]) {
                        out.due = often[9] + Math.max(1, set[4] / 2);
                        shelf.add(out);
                    } else {
                        often[5]++;
                        writeFar(out);
                    }
                }
            }
            row.add(0, l);
            for (Asker a : askers) {
                answer(l, a);
            }
        }

        void answer(Line l, Asker a) {
            if (a.value == null) {
                a.load.value = l.items[a.item];
                a.load.waited = often[9] - a.began;
                often[8]++;
            } else {
                l.items[a.item] = a.value;
                l.changed[a.item] = true;
            }
        }

        int fence() {
            tick();
            while (!fetches.isEmpty() || !shelf.isEmpty()) {
                stall();
                tick();
            }
            return often[9];
        }

        void stall() {
            often[4]++;
            cost += 0.1f;
        }

        int ask(int box, int item, Integer value) {
            tick();
            while (!canBegin(box)) {
                stall();
                tick();
            }
            Asker a = new Asker();
            a.item = item;
            a.value = value;
            a.began = often[9];
            if (value == null) {
                a.load = new Got();
                a.load.began = often[9];
                loads.add(a.load);
                often[7]++;
            }
            Line near = near(box);
            Line shelved = find(shelf, box);
            Fetch fetch = fetchOf(box);
            if (near != null) {
                often[0]++;
                rows.get(box % 4).remove(near);
                rows.get(box % 4).add(0, near);
                answer(near, a);
                cost += 1.5f;
            } else if (shelved != null) {
                often[3]++;
                shelf.remove(shelved);
                comesNear(shelved, List.of(a));
                cost += 2.125f;
            } else if (fetch != null) {
                often[1]++;
                fetch.askers.add(a);
                cost += 0.25f;
            } else {
                often[2]++;
                Fetch f = new Fetch();
                f.box = box;
                f.due = often[9] + set[4];
                f.askers.add(a);
                fetches.add(f);
                cost += 4.75f;
            }
            return often[9];
        }

        boolean canBegin(int box) {
            if (near(box) != null || find(shelf, box) != null) {
                return true;
            }
            Fetch f = fetchOf(box);
            return f != null ? f.askers.size() < set[3] : fetches.size() < set[2];
        }

        void run(String text) {
            Matcher m = ORDER.matcher(text);
            while (m.find()) {
                if (m.group(1) != null) {
                    Integer value = m.group(3) == null ? null : Integer.valueOf(m.group(3));
                    ask(m.group(1).charAt(0) - 'a', m.group(2).charAt(0) - '0', value);
                } else if (m.group(4) != null) {
                    fence();
                } else {
                    for (int i = Integer.parseInt(m.group(5)); i > 0; i--) {
                        tick();
                    }
                }
            }
        }
    }

    private World now = new World(new int[] {2, 1, 2, 2, 6});
    private final ArrayDeque<World> states = new ArrayDeque<>();
    private final int[] refused = new int[3];
    private String text = "";

    private int bad() {
        refused[0]++;
        return -2;
    }

    private static boolean out(int v, int least, int greatest) {
        return v < least || v > greatest;
    }

    private void leaveState() {
        states.addLast(now.copy());
        if (states.size() > 6) {
            states.removeFirst();
        }
    }

    int sets(int what, int v) {
        if (out(what, 0, 4) || out(v, BOUNDS[what][0], BOUNDS[what][1])) {
            return bad();
        }
        leaveState();
        int old = now.set[what];
        int[] set = now.set.clone();
        set[what] = v;
        now = new World(set);
        return old;
    }

    int anew() {
        leaveState();
        int gone = now.often[9];
        now = new World(now.set);
        return gone;
    }

    int load(int box, int item) {
        if (out(box, 0, 15) || out(item, 0, 3)) {
            return bad();
        }
        leaveState();
        return now.ask(box, item, null);
    }

    int store(int box, int item, int v) {
        if (out(box, 0, 15) || out(item, 0, 3) || out(v, 0, 99)) {
            return bad();
        }
        leaveState();
        return now.ask(box, item, v);
    }

    int fence() {
        leaveState();
        return now.fence();
    }

    int ticks(int n) {
        if (out(n, 0, 99)) {
            return bad();
        }
        leaveState();
        int before = now.often[8];
        for (int i = 0; i < n; i++) {
            now.tick();
        }
        return now.often[8] - before;
    }

    int draw(int seed, int n) {
        if (out(seed, 0, 999999) || out(n, 1, 40)) {
            return bad();
        }
        leaveState();
        int before = now.often[9];
        long x = seed;
        for (int i = 0; i < n; i++) {
            x = (x * 1103515245 + 12345) % 2147483648L;
            Integer value = x / 32768 % 3 == 0 ? Integer.valueOf((int) (x / 2048 % 100)) : null;
            now.ask((int) (x / 65536 % 16), (int) (x / 1024 % 4), value);
        }
        return now.often[9] - before;
    }

    int got(int k, int what) {
        if (k < 0 || out(what, 0, 2)) {
            return bad();
        }
        if (k >= now.loads.size() || k >= 200) {
            return -1;
        }
        Got g = now.loads.get(k);
        return new int[] {g.value, g.waited, g.began}[what];
    }

    int often(int what) {
        return out(what, 0, 9) ? bad() : now.often[what];
    }

    int where(int box) {
        if (out(box, 0, 15)) {
            return bad();
        }
        return now.near(box) != null ? 1 : World.find(now.shelf, box) != null ? 2 : now.fetchOf(box) != null ? 3 : 0;
    }

    int item(int box, int j, int what) {
        if (out(box, 0, 15) || out(j, 0, 3) || out(what, 0, 2)) {
            return bad();
        }
        Line l = now.near(box) != null ? now.near(box) : World.find(now.shelf, box);
        if (what == 0) {
            return now.far[box][j];
        }
        if (what == 2) {
            return l != null && l.changed[j] ? 1 : 0;
        }
        World then = now.copy();
        then.ask(box, j, null);
        for (int i = 0; i < 20; i++) {
            then.tick();
        }
        return then.loads.get(then.loads.size() - 1).value;
    }

    int place(int r, int k) {
        if (out(r, 0, 3) || out(k, 0, 2)) {
            return bad();
        }
        return k < now.rows.get(r).size() ? now.rows.get(r).get(k).box : -1;
    }

    int fetch(int k, int what) {
        if (k < 0 || out(what, 0, 2)) {
            return bad();
        }
        if (k >= now.fetches.size()) {
            return -1;
        }
        Fetch f = now.fetches.get(k);
        return new int[] {f.box, f.due - now.often[9], f.askers.size()}[what];
    }

    private List<Integer> waits() {
        List<Integer> waits = new ArrayList<>();
        for (Got g : now.loads) {
            if (g.waited >= 0) {
                waits.add(g.waited);
            }
        }
        return waits;
    }

    int cost(int what) {
        if (out(what, 0, 2)) {
            return bad();
        }
        int sum = 0;
        int most = 0;
        for (int w : waits()) {
            sum += w;
            most = Math.max(most, w);
        }
        float mean = waits().isEmpty() ? 0f : (float) sum / (float) waits().size();
        return Float.floatToIntBits(what == 0 ? now.cost : what == 1 ? mean : (float) most);
    }

    long even() {
        double n = waits().size();
        double sum = 0;
        double squares = 0;
        for (int w : waits()) {
            sum += w;
            squares += w * w;
        }
        return n == 0 ? 0 : Double.doubleToLongBits(squares / n - sum / n * (sum / n));
    }

    /** The FAULT by its own words: the first byte behind which no end could make the TEXT right. */
    private int fault() {
        for (int i = 0; i < text.length(); i++) {
            Matcher m = WHOLE.matcher(text.substring(0, i + 1));
            if (!m.matches() && !m.hitEnd()) {
                String before = text.substring(0, i);
                boolean third = Character.isDigit(text.charAt(i)) && before.matches("(?s).*[=#] *[0-9][0-9]");
                return third ? i - 2 : i;
            }
        }
        return WHOLE.matcher(text).matches() ? -1 : text.length();
    }

    int best(int what) {
        if (out(what, 0, 1)) {
            return bad();
        }
        int fault = fault();
        if (fault >= 0) {
            return -10 - fault;
        }
        int[] best = {0, Integer.MAX_VALUE};
        for (int f = 1; f <= 4; f++) {
            int[] set = now.set.clone();
            set[2] = f;
            World w = new World(set);
            w.run(text);
            while (!w.fetches.isEmpty()) {
                w.tick();
            }
            if (w.often[9] < best[1]) {
                best = new int[] {f, w.often[9]};
            }
        }
        return best[what];
    }

    int type(int c) {
        if (out(c, 0, 127)) {
            return bad();
        }
        if (text.length() == 120) {
            refused[2]++;
            return -4;
        }
        text += (char) c;
        return text.length();
    }

    int clear() {
        int had = text.length();
        text = "";
        return had;
    }

    int runs() {
        int fault = fault();
        if (fault >= 0) {
            return -10 - fault;
        }
        leaveState();
        int before = now.often[9];
        now.run(text);
        return now.often[9] - before;
    }

    int back() {
        if (states.isEmpty()) {
            refused[1]++;
            return -3;
        }
        now = states.removeLast();
        return states.size();
    }

    int told(int what) {
        if (out(what, 0, 9)) {
            return bad();
        }
        if (what < 3) {
            return refused[what];
        }
        return what == 3 ? text.length() : what == 9 ? states.size() : now.set[what - 4];
    }

    long digest() {
        long h = 2087;
        for (int i = 0; i < 10; i++) {
            h = 31 * h + told(i);
        }
        for (int v : now.often) {
            h = 31 * h + v;
        }
        for (int[] items : now.far) {
            for (int v : items) {
                h = 31 * h + v;
            }
        }
        for (int b = 0; b < 16; b++) {
            h = 31 * h + where(b);
        }
        h = 31 * h + cost(0);
        h = 31 * h + cost(1);
        return 31 * h + even();
    }
}
