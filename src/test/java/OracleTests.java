import java.util.Random;

// Runs of calls on the class and on a slow second program that follows the document's words literally.
public final class OracleTests {
    private static final int NONE = -1, BAD = -2, FULL = -3, JOINED = -4, RING = -5;
    private static int wrong = 0;

    /** The document, word by word: no theorem, no bit tricks on the graph. */
    private static final class Slow {
        int n = 0;
        boolean[][] arc = new boolean[8][8];
        int[][] odds = new int[8][128];
        int[] held = new int[8];
        boolean[][] kept = null;
        int keptPlaces = 0;

        int arcs(boolean[][] g) {
            int many = 0;
            for (boolean[] row : g) {
                for (boolean there : row) {
                    many += there ? 1 : 0;
                }
            }
            return many;
        }

        static boolean[][] copy(boolean[][] g) {
            boolean[][] c = new boolean[8][];
            for (int p = 0; p < 8; p++) {
                c[p] = g[p].clone();
            }
            return c;
        }

        boolean in(int set, int p) {
            return (set & (1 << p)) != 0;
        }

        boolean isPlace(int p) {
            return 0 <= p && p < n;
        }

        boolean isSet(int s) {
            return 0 <= s && s < (1 << n);
        }

        boolean isPair(int a, int b) {
            return isPlace(a) && isPlace(b) && a != b;
        }

        boolean isAsked(int a, int b, int set) {
            return isPair(a, b) && isSet(set) && !in(set, a) && !in(set, b);
        }

        boolean way(boolean[][] g, int from, int to) {
            if (from == to) {
                return true;
            }
            for (int q = 0; q < n; q++) {
                if (g[from][q] && way(g, q, to)) {
                    return true;
                }
            }
            return false;
        }

        boolean ring(boolean[][] g) {
            for (int p = 0; p < n; p++) {
                boolean[] on = new boolean[8];
                if (comesBack(g, p, p, on)) {
                    return true;
                }
            }
            return false;
        }

        boolean comesBack(boolean[][] g, int at, int to, boolean[] seen) {
            for (int q = 0; q < n; q++) {
                if (g[at][q]) {
                    if (q == to) {
                        return true;
                    }
                    if (!seen[q]) {
                        seen[q] = true;
                        if (comesBack(g, q, to, seen)) {
                            return true;
                        }
                    }
                }
            }
            return false;
        }

        boolean[][] counting() {
            boolean[][] c = copy(arc);
            for (int p = 0; p < n; p++) {
                for (int q = 0; q < n; q++) {
                    if (held[q] != NONE) {
                        c[p][q] = false;
                    }
                }
            }
            return c;
        }

        boolean below(boolean[][] g, int top, int p) {
            return top != p && way(g, top, p);
        }

        boolean inOrAbove(boolean[][] g, int p, int set) {
            for (int q = 0; q < n; q++) {
                if (in(set, q) && (q == p || below(g, p, q))) {
                    return true;
                }
            }
            return false;
        }

        /** WALKS by their last two PLACES; there are 64 such pairs, so none need be longer. */
        int walkIn(boolean[][] g, int a, int b, int set) {
            boolean[][] now = new boolean[8][8];
            for (int q = 0; q < n; q++) {
                now[a][q] = g[a][q] || g[q][a];
            }
            boolean[] opens = new boolean[8];
            for (int p = 0; p < n; p++) {
                opens[p] = inOrAbove(g, p, set);
            }
            for (int length = 1; length <= 64; length++) {
                for (int p = 0; p < n; p++) {
                    if (now[p][b]) {
                        return length;
                    }
                }
                boolean[][] next = new boolean[8][8];
                boolean any = false;
                for (int p = 0; p < n; p++) {
                    for (int q = 0; q < n; q++) {
                        for (int r = 0; now[p][q] && r < n; r++) {
                            if (g[q][r] || g[r][q]) {
                                boolean meet = g[p][q] && g[r][q];
                                if (meet ? opens[q] : !in(set, q)) {
                                    next[q][r] = true;
                                    any = true;
                                }
                            }
                        }
                    }
                }
                if (!any) {
                    return NONE;
                }
                now = next;
            }
            return NONE;
        }

        boolean same(boolean[][] g, boolean[][] h) {
            for (int a = 0; a < n; a++) {
                for (int b = a + 1; b < n; b++) {
                    for (int set = 0; set < (1 << n); set++) {
                        if (!in(set, a) && !in(set, b)
                                && (walkIn(g, a, b, set) == NONE) != (walkIn(h, a, b, set) == NONE)) {
                            return false;
                        }
                    }
                }
            }
            return true;
        }

        int rows(int p) {
            int rows = 1;
            for (int q = 0; q < n; q++) {
                rows *= arc[q][p] ? 2 : 1;
            }
            return rows;
        }

        int row(int p, int values) {
            int row = 0;
            int worth = 1;
            for (int q = 0; q < n; q++) {
                if (arc[q][p]) {
                    row += in(values, q) ? worth : 0;
                    worth *= 2;
                }
            }
            return row;
        }

        long weigh(int values) {
            long product = 1;
            for (int p = 0; p < n; p++) {
                int one = held[p] == NONE ? odds[p][row(p, values)] : 8 * held[p];
                product *= in(values, p) ? one : 8 - one;
            }
            return product;
        }

        long[] all = new long[256];

        void weighAll() {
            for (int v = 0; v < (1 << n); v++) {
                all[v] = weigh(v);
            }
        }

        long sum(int set, int values) {
            long sum = 0;
            for (int v = 0; v < (1 << n); v++) {
                sum += (v & set) == (values & set) ? all[v] : 0;
            }
            return sum;
        }

        int differ(int a, int b, int set) {
            weighAll();
            int one = 1 << a;
            int other = 1 << b;
            for (int v = 0; v < (1 << n); v++) {
                if ((v & ~(set | one | other)) == 0
                        && sum(set | one | other, v) * sum(set, v) != sum(set | one, v) * sum(set | other, v)) {
                    return v;
                }
            }
            return NONE;
        }

        int startAgain(int p) {
            for (int row = 0; row < 128; row++) {
                odds[p][row] = 4;
            }
            return p;
        }

        int blanket(int p) {
            boolean[][] g = counting();
            for (int size = 0; size <= n; size++) {
                for (int set = 0; set < (1 << n); set++) {
                    if (Integer.bitCount(set) == size && !in(set, p)) {
                        boolean fits = true;
                        for (int q = 0; q < n && fits; q++) {
                            fits = q == p || in(set, q) || walkIn(g, p, q, set) == NONE;
                        }
                        if (fits) {
                            return set;
                        }
                    }
                }
            }
            return NONE;
        }

        int least(int a, int b) {
            boolean[][] g = counting();
            for (int size = 0; size <= n; size++) {
                for (int set = 0; set < (1 << n); set++) {
                    if (Integer.bitCount(set) == size && !in(set, a) && !in(set, b)
                            && walkIn(g, a, b, set) == NONE) {
                        return set;
                    }
                }
            }
            return NONE;
        }

        int enough(int x, int y, int set) {
            boolean[][] g = counting();
            for (int q = 0; q < n; q++) {
                if (in(set, q) && below(g, x, q)) {
                    return 0;
                }
            }
            for (int q = 0; q < n; q++) {
                g[x][q] = false;
            }
            return walkIn(g, x, y, set) == NONE ? 1 : 0;
        }

        int found;
        boolean[][] turned;

        /** Every graph on these PLACES, if they are few; else every graph that joins the same ones. */
        void explore() {
            found = 0;
            turned = new boolean[8][8];
            tryAll(new boolean[8][8], 0);
        }

        void tryAll(boolean[][] g, int pair) {
            if (pair == n * n) {
                if (!ring(g) && same(g, arc)) {
                    found++;
                    for (int p = 0; p < n; p++) {
                        for (int q = 0; q < n; q++) {
                            turned[p][q] |= arc[p][q] && !g[p][q];
                        }
                    }
                }
                return;
            }
            int p = pair / n;
            int q = pair % n;
            boolean joined = arc[p][q] || arc[q][p];
            if (p >= q) {
                tryAll(g, pair + 1);
                return;
            }
            if (!joined || n <= 4) {
                tryAll(g, pair + 1);
            }
            if (joined || n <= 4) {
                g[p][q] = true;
                tryAll(g, pair + 1);
                g[p][q] = false;
                g[q][p] = true;
                tryAll(g, pair + 1);
                g[q][p] = false;
            }
        }

        int setOf(int p, boolean[][] g, boolean children) {
            int set = 0;
            for (int q = 0; q < n; q++) {
                set |= (children ? g[p][q] : g[q][p]) ? 1 << q : 0;
            }
            return set;
        }

        int clear() {
            int had = n;
            n = 0;
            arc = new boolean[8][8];
            kept = null;
            return had;
        }

        int place() {
            if (n == 8) {
                return FULL;
            }
            held[n] = NONE;
            startAgain(n);
            return n++;
        }

        int arc(int from, int to) {
            if (!isPair(from, to)) {
                return BAD;
            }
            if (arc[from][to] || arc[to][from]) {
                return JOINED;
            }
            if (way(arc, to, from)) {
                return RING;
            }
            if (arcs(arc) == 10) {
                return FULL;
            }
            arc[from][to] = true;
            startAgain(to);
            return arcs(arc);
        }

        int cut(int from, int to) {
            if (!isPair(from, to)) {
                return BAD;
            }
            if (!arc[from][to]) {
                return NONE;
            }
            arc[from][to] = false;
            startAgain(to);
            return arcs(arc);
        }

        int odds(int p, int row, int eighths) {
            if (!isPlace(p) || row < 0 || row >= rows(p) || eighths < 0 || eighths > 8) {
                return BAD;
            }
            int were = odds[p][row];
            odds[p][row] = eighths;
            return were;
        }

        int hold(int p, int value) {
            if (!isPlace(p) || value < -1 || value > 1) {
                return BAD;
            }
            int was = held[p];
            held[p] = value;
            return was;
        }

        int of(int p, int what) {
            if (!isPlace(p) || what < 0 || what > 4) {
                return BAD;
            }
            if (what == 2) {
                boolean[][] g = counting();
                int set = 0;
                for (int q = 0; q < n; q++) {
                    set |= below(g, p, q) ? 1 << q : 0;
                }
                return set;
            }
            return what == 3 ? held[p] : what == 4 ? rows(p) : setOf(p, arc, what == 1);
        }

        int alike() {
            if (kept == null || keptPlaces != n) {
                return NONE;
            }
            return same(kept, arc) ? 1 : 0;
        }

        int settled(int from, int to) {
            if (!isPair(from, to)) {
                return BAD;
            }
            if (!arc[from][to]) {
                return NONE;
            }
            explore();
            return turned[from][to] ? 0 : 1;
        }

        int count(int what) {
            int heldNow = 0;
            for (int p = 0; p < n; p++) {
                heldNow += held[p] == NONE ? 0 : 1;
            }
            switch (what) {
                case 0:
                    return n;
                case 1:
                    return arcs(arc);
                case 2:
                    explore();
                    return arcs(arc) - arcs(turned);
                case 3:
                    return heldNow;
                default:
                    return BAD;
            }
        }
    }

    private static final String[] NAMES = {
        "place", "arc", "cut", "odds", "hold", "told", "of", "separated", "walk", "weight", "independent",
        "differ", "blanket", "least", "enough", "keep", "alike", "settled", "family", "count", "clear"
    };
    private static final int[] WILD = {
        Integer.MIN_VALUE, Integer.MAX_VALUE, -2, -1, 8, 9, 31, 32, 33, 64, 127, 128, 255, 256, 1 << 30
    };

    private static long ask(IndependenceRows x, String name, int a, int b, int c) {
        switch (name) {
            case "place": return x.place();
            case "arc": return x.arc(a, b);
            case "cut": return x.cut(a, b);
            case "odds": return x.odds(a, b, c);
            case "hold": return x.hold(a, b);
            case "told": return x.told(a, b);
            case "of": return x.of(a, b);
            case "separated": return x.separated(a, b, c);
            case "walk": return x.walk(a, b, c);
            case "weight": return x.weight(a, b);
            case "independent": return x.independent(a, b, c);
            case "differ": return x.differ(a, b, c);
            case "blanket": return x.blanket(a);
            case "least": return x.least(a, b);
            case "enough": return x.enough(a, b, c);
            case "keep": return x.keep();
            case "alike": return x.alike();
            case "settled": return x.settled(a, b);
            case "family": return x.family();
            case "count": return x.count(a);
            default: return x.clear();
        }
    }

    private static long ask(Slow s, String name, int a, int b, int c) {
        boolean asked = s.isAsked(a, b, c);
        switch (name) {
            case "place": return s.place();
            case "arc": return s.arc(a, b);
            case "cut": return s.cut(a, b);
            case "odds": return s.odds(a, b, c);
            case "hold": return s.hold(a, b);
            case "told": return s.isPlace(a) && b >= 0 && b < s.rows(a) ? s.odds[a][b] : BAD;
            case "of": return s.of(a, b);
            case "separated": return !asked ? BAD : s.walkIn(s.counting(), a, b, c) == NONE ? 1 : 0;
            case "walk": return !asked ? BAD : s.walkIn(s.counting(), a, b, c);
            case "weight":
                s.weighAll();
                return s.isSet(a) && s.isSet(b) ? s.sum(a, b) : BAD;
            case "independent": return !asked ? BAD : s.differ(a, b, c) == NONE ? 1 : 0;
            case "differ": return !asked ? BAD : s.differ(a, b, c);
            case "blanket": return s.isPlace(a) ? s.blanket(a) : BAD;
            case "least": return s.isPair(a, b) ? s.least(a, b) : BAD;
            case "enough": return !asked ? BAD : s.enough(a, b, c);
            case "keep":
                s.kept = Slow.copy(s.arc);
                s.keptPlaces = s.n;
                return s.arcs(s.arc);
            case "alike": return s.alike();
            case "settled": return s.settled(a, b);
            case "family":
                s.explore();
                return s.found;
            case "count": return s.count(a);
            default: return s.clear();
        }
    }

    private static void compare(IndependenceRows x, Slow s, String name, int a, int b, int c) {
        long got = ask(x, name, a, b, c);
        long want = ask(s, name, a, b, c);
        if (got != want) {
            wrong++;
            if (wrong <= 20) {
                System.out.println(name + "(" + a + ", " + b + ", " + c + ") answered " + got + ", due is " + want);
            }
        }
    }

    private static boolean isDear(String name) {
        return name.equals("family") || name.equals("settled") || name.equals("count") || name.equals("alike");
    }

    /** A number that mostly has a meaning for this argument of this call, and sometimes none. */
    private static int pick(Random random, Slow s, String name, int argument, int first) {
        if (random.nextInt(40) == 0) {
            return WILD[random.nextInt(WILD.length)];
        }
        int place = random.nextInt(Math.max(1, s.n));
        int set = random.nextInt(1 << s.n);
        switch (name) {
            case "weight":
                return set;
            case "odds":
            case "told":
                if (argument == 1 && s.isPlace(first)) {
                    return random.nextInt(s.rows(first));
                }
                return argument == 0 ? place : random.nextInt(9);
            case "hold":
                return argument == 0 ? place : random.nextInt(3) == 0 ? random.nextInt(2) : NONE;
            case "of":
                return argument == 0 ? place : random.nextInt(5);
            case "count":
                return random.nextInt(4);
            default:
                return argument < 2 ? place : set;
        }
    }

    private static void randomRun(long seed, int places, int dearness) {
        Random random = new Random(seed);
        IndependenceRows x = new IndependenceRows();
        Slow s = new Slow();
        for (int call = 0; call < 512; call++) {
            String name = call < places ? "place" : NAMES[random.nextInt(NAMES.length)];
            if (call >= places && random.nextInt(3) == 0) {
                name = random.nextBoolean() ? "arc" : "odds";
            }
            if (name.equals("place") && call >= places && random.nextInt(20) != 0
                    || name.equals("clear") && random.nextInt(20) != 0
                    || isDear(name) && random.nextInt(dearness) != 0) {
                continue;
            }
            int a = pick(random, s, name, 0, 0);
            int b = pick(random, s, name, 1, a);
            int c = pick(random, s, name, 2, a);
            if (s.isPair(a, b) && random.nextInt(30) != 0 && !name.equals("odds")) {
                c &= ~(1 << a | 1 << b);
            }
            compare(x, s, name, a, b, c);
        }
    }

    /** Each graph of these PLACES, and all that is read from it without odds. */
    private static void everyGraph(int places) {
        int pairs = places * (places - 1) / 2;
        int graphs = 1;
        for (int i = 0; i < pairs; i++) {
            graphs *= 3;
        }
        for (int code = 0; code < graphs; code++) {
            IndependenceRows x = new IndependenceRows();
            Slow s = new Slow();
            for (int p = 0; p < places; p++) {
                compare(x, s, "place", 0, 0, 0);
            }
            int rest = code;
            for (int p = 0; p < places; p++) {
                for (int q = p + 1; q < places; q++) {
                    if (rest % 3 != 0) {
                        compare(x, s, "arc", rest % 3 == 1 ? p : q, rest % 3 == 1 ? q : p, 0);
                    }
                    rest /= 3;
                }
            }
            readAll(x, s, places);
            compare(x, s, "hold", code % places, code % 2, 0);
            readAll(x, s, places);
        }
    }

    private static void readAll(IndependenceRows x, Slow s, int places) {
        for (int a = 0; a < places; a++) {
            compare(x, s, "blanket", a, 0, 0);
            compare(x, s, "of", a, 2, 0);
            for (int b = 0; b < places; b++) {
                compare(x, s, "least", a, b, 0);
                for (int set = 0; set < (1 << places); set++) {
                    compare(x, s, "walk", a, b, set);
                    compare(x, s, "separated", a, b, set);
                    compare(x, s, "enough", a, b, set);
                }
            }
        }
    }

    /** Each graph of four PLACES at most: how many are ALIKE it, and what is settled. */
    private static void everyFamily(int places, int step) {
        int pairs = places * (places - 1) / 2;
        int graphs = 1;
        for (int i = 0; i < pairs; i++) {
            graphs *= 3;
        }
        for (int code = 0; code < graphs; code += step) {
            IndependenceRows x = new IndependenceRows();
            Slow s = new Slow();
            for (int p = 0; p < places; p++) {
                compare(x, s, "place", 0, 0, 0);
            }
            int rest = code;
            for (int p = 0; p < places; p++) {
                for (int q = p + 1; q < places; q++) {
                    if (rest % 3 != 0) {
                        compare(x, s, "arc", rest % 3 == 1 ? p : q, rest % 3 == 1 ? q : p, 0);
                    }
                    rest /= 3;
                }
            }
            compare(x, s, "family", 0, 0, 0);
            compare(x, s, "count", 2, 0, 0);
            compare(x, s, "settled", code % places, (code + 1) % places, 0);
        }
    }

    public static void main(String[] args) {
        everyGraph(3);
        everyGraph(4);
        everyFamily(2, 1);
        everyFamily(3, 1);
        everyFamily(4, 10);
        for (int seed = 0; seed < 60; seed++) {
            randomRun(seed, 2 + seed % 3, 2);
        }
        for (int seed = 100; seed < 160; seed++) {
            randomRun(seed, 5 + seed % 4, 20);
        }
        System.out.println(wrong == 0 ? "all answers are as due" : wrong + " answers are not as due");
        if (wrong != 0) {
            System.exit(1);
        }
    }
}
