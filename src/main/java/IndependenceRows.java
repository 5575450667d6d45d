import java.util.Arrays;

/**
 * What hangs on what: PLACES of two values in a graph with tables of ODDS. The words in capitals,
 * and what each call promises, are told in the document of this class.
 */
public final class IndependenceRows {
    public static final int NONE = -1, BAD = -2, FULL = -3, JOINED = -4, RING = -5;

    private static final int MOST_PLACES = 8;
    private static final int MOST_ARCS = 10;
    private static final int CASES = 8;
    private static final int FIRST_ODDS = 4;
    private static final int ROW_ROOM = 1 << (MOST_PLACES - 1);
    private static final int VALUES_ROOM = 1 << MOST_PLACES;
    /** A shortest WALK comes to no PLACE twice in the same way, and there are two ways to come. */
    private static final int MOST_STEPS = 2 * MOST_PLACES;

    private final Graph graph;
    private final Graph kept;
    private boolean anyKept;
    private final Tables tables;
    private final Walks walks;
    private final Kin kin;
    private final Margin ofAll;
    private final Margin ofGiven;
    private final Margin ofOne;
    private final Margin ofOther;

    public IndependenceRows() {
        graph = new Graph();
        kept = new Graph();
        anyKept = false;
        tables = new Tables();
        walks = new Walks();
        kin = new Kin();
        ofAll = new Margin();
        ofGiven = new Margin();
        ofOne = new Margin();
        ofOther = new Margin();
    }

    public int clear() {
        int had = graph.places;
        graph.empty();
        tables.releaseAll();
        anyKept = false;
        return had;
    }

    public int place() {
        if (graph.places >= MOST_PLACES) {
            return FULL;
        }
        int added = graph.places;
        graph.places = added + 1;
        tables.startRows(added);
        return added;
    }

    public int arc(int from, int to) {
        if (!isPair(from, to)) {
            return BAD;
        }
        if (has(graph.neighbours(from), to)) {
            return JOINED;
        }
        if (has(closure(graph.children, bit(to)), from)) {
            return RING;
        }
        if (graph.arcs >= MOST_ARCS) {
            return FULL;
        }
        graph.join(from, to);
        tables.startRows(to);
        return graph.arcs;
    }

    public int cut(int from, int to) {
        if (!isPair(from, to)) {
            return BAD;
        }
        if (!has(graph.children[from], to)) {
            return NONE;
        }
        graph.part(from, to);
        tables.startRows(to);
        return graph.arcs;
    }

    public int odds(int place, int row, int eighths) {
        if (!isRow(place, row) || eighths < 0 || eighths > CASES) {
            return BAD;
        }
        int were = tables.eighths[place][row];
        tables.eighths[place][row] = eighths;
        return were;
    }

    public int hold(int place, int value) {
        if (!isPlace(place) || value < NONE || value > 1) {
            return BAD;
        }
        int was = tables.heldAt(place);
        tables.setHeld(place, value);
        return was;
    }

    public int told(int place, int row) {
        return isRow(place, row) ? tables.eighths[place][row] : BAD;
    }

    public int of(int place, int what) {
        if (!isPlace(place)) {
            return BAD;
        }
        switch (what) {
            case 0:
                return graph.parents[place];
            case 1:
                return graph.children[place];
            case 2:
                walks.lookAt(graph, tables.held, 0);
                return walks.below(place);
            case 3:
                return tables.heldAt(place);
            case 4:
                return graph.rows(place);
            default:
                return BAD;
        }
    }

    public int separated(int a, int b, int set) {
        if (!isQuestion(a, b, set)) {
            return BAD;
        }
        walks.lookAt(graph, tables.held, 0);
        return answer(walks.shortest(a, b, set) == NONE);
    }

    public int walk(int a, int b, int set) {
        if (!isQuestion(a, b, set)) {
            return BAD;
        }
        walks.lookAt(graph, tables.held, 0);
        return walks.shortest(a, b, set);
    }

    public long weight(int set, int values) {
        if (!isSet(set) || !isSet(values)) {
            return BAD;
        }
        long sum = 0;
        int last = graph.everyPlace();
        for (int all = 0; all <= last; all++) {
            if (((all ^ values) & set) == 0) {
                sum += tables.product(graph, all);
            }
        }
        return sum;
    }

    public int independent(int a, int b, int set) {
        if (!isQuestion(a, b, set)) {
            return BAD;
        }
        return answer(leastDifference(a, b, set) == NONE);
    }

    public int differ(int a, int b, int set) {
        return isQuestion(a, b, set) ? leastDifference(a, b, set) : BAD;
    }

    public int blanket(int place) {
        if (!isPlace(place)) {
            return BAD;
        }
        return fewest(place, bit(place), graph.everyPlace() & ~bit(place));
    }

    public int least(int a, int b) {
        if (!isPair(a, b)) {
            return BAD;
        }
        return fewest(a, bit(a) | bit(b), bit(b));
    }

    public int enough(int x, int y, int set) {
        if (!isQuestion(x, y, set)) {
            return BAD;
        }
        walks.lookAt(graph, tables.held, 0);
        if ((walks.below(x) & set) != 0) {
            return 0;
        }
        walks.lookAt(graph, tables.held, bit(x));
        return answer(walks.shortest(x, y, set) == NONE);
    }

    public int keep() {
        kept.copy(graph);
        anyKept = true;
        return kept.arcs;
    }

    public int alike() {
        if (!anyKept || kept.places != graph.places) {
            return NONE;
        }
        return answer(graph.tellsTheSameAs(kept));
    }

    public int settled(int from, int to) {
        if (!isPair(from, to)) {
            return BAD;
        }
        if (!has(graph.children[from], to)) {
            return NONE;
        }
        kin.explore(graph);
        return answer(!kin.isTurned(from, to));
    }

    public int family() {
        kin.explore(graph);
        return kin.found;
    }

    public int count(int what) {
        switch (what) {
            case 0:
                return graph.places;
            case 1:
                return graph.arcs;
            case 2:
                kin.explore(graph);
                return graph.arcs - Integer.bitCount(kin.turned);
            case 3:
                return Integer.bitCount(tables.held);
            default:
                return BAD;
        }
    }

    private boolean isPlace(int place) {
        return place >= 0 && place < graph.places;
    }

    private boolean isPair(int a, int b) {
        return isPlace(a) && isPlace(b) && a != b;
    }

    private boolean isSet(int set) {
        return set >= 0 && set <= graph.everyPlace();
    }

    private boolean isQuestion(int a, int b, int set) {
        return isPair(a, b) && isSet(set) && !has(set, a) && !has(set, b);
    }

    private boolean isRow(int place, int row) {
        return isPlace(place) && row >= 0 && row < graph.rows(place);
    }

    /** The least VALUES by which a and b are not INDEPENDENT by the SET, or NONE. */
    private int leastDifference(int a, int b, int set) {
        int whole = set | bit(a) | bit(b);
        ofAll.start(whole);
        ofGiven.start(set);
        ofOne.start(set | bit(a));
        ofOther.start(set | bit(b));
        int last = graph.everyPlace();
        for (int all = 0; all <= last; all++) {
            long product = tables.product(graph, all);
            ofAll.add(all, product);
            ofGiven.add(all, product);
            ofOne.add(all, product);
            ofOther.add(all, product);
        }
        for (int values = 0; values <= whole; values++) {
            // No sum is above 8 to the 8th, so no product of two wraps around.
            if ((values & ~whole) == 0
                    && ofAll.sum(values) * ofGiven.sum(values) != ofOne.sum(values) * ofOther.sum(values)) {
                return values;
            }
        }
        return NONE;
    }

    /**
     * The SET of fewest PLACES, none of them banned, by which a PLACE is SEPARATED from each target
     * that is not in it; of as many the least number. NONE if there is none.
     */
    private int fewest(int place, int banned, int targets) {
        walks.lookAt(graph, tables.held, 0);
        int best = NONE;
        int bestSize = MOST_PLACES + 1;
        int last = graph.everyPlace();
        for (int set = 0; set <= last; set++) {
            // Sets come by number: only one of fewer PLACES is better than one found before.
            if ((set & banned) == 0 && Integer.bitCount(set) < bestSize
                    && (walks.reached(place, set) & targets & ~set) == 0) {
                best = set;
                bestSize = Integer.bitCount(set);
            }
        }
        return best;
    }

    private static int answer(boolean holds) {
        return holds ? 1 : 0;
    }

    private static int bit(int place) {
        return 1 << place;
    }

    private static boolean has(int set, int place) {
        return (set >> place & 1) != 0;
    }

    /** All PLACES that are in the SETS of one of these PLACES. */
    private static int union(int[] sets, int places) {
        int all = 0;
        for (int p = 0; p < sets.length; p++) {
            if (has(places, p)) {
                all |= sets[p];
            }
        }
        return all;
    }

    /** These PLACES, those in their SETS, those in the SETS of these, and so on. */
    private static int closure(int[] sets, int places) {
        int all = places;
        for (int round = 0; round < sets.length; round++) {
            int more = all | union(sets, all);
            if (more == all) {
                break;
            }
            all = more;
        }
        return all;
    }

    /** PLACES and all ARCS between them, whether they COUNT or not. */
    private static final class Graph {
        private int places;
        private int arcs;
        private final int[] parents;
        private final int[] children;

        private Graph() {
            places = 0;
            arcs = 0;
            parents = new int[MOST_PLACES];
            children = new int[MOST_PLACES];
        }

        private void empty() {
            places = 0;
            arcs = 0;
            Arrays.fill(parents, 0);
            Arrays.fill(children, 0);
        }

        private void copy(Graph other) {
            places = other.places;
            arcs = other.arcs;
            System.arraycopy(other.parents, 0, parents, 0, MOST_PLACES);
            System.arraycopy(other.children, 0, children, 0, MOST_PLACES);
        }

        private void join(int from, int to) {
            children[from] |= bit(to);
            parents[to] |= bit(from);
            arcs++;
        }

        private void part(int from, int to) {
            children[from] &= ~bit(to);
            parents[to] &= ~bit(from);
            arcs--;
        }

        private int everyPlace() {
            return bit(places) - 1;
        }

        private int neighbours(int place) {
            return parents[place] | children[place];
        }

        private int rows(int place) {
            return 1 << Integer.bitCount(parents[place]);
        }

        /** The other PARENTS of the child that no ARC joins to this one; none if it is no PARENT. */
        private int strangers(int parent, int child) {
            if (!has(parents[child], parent)) {
                return 0;
            }
            return parents[child] & ~bit(parent) & ~neighbours(parent);
        }

        /**
         * Two graphs are ALIKE just if they join the same PLACES and the same ARCS of strangers come
         * together in both (Verma and Pearl 1990), so no SET has to be tried.
         */
        private boolean tellsTheSameAs(Graph other) {
            for (int child = 0; child < places; child++) {
                if (neighbours(child) != other.neighbours(child)) {
                    return false;
                }
                for (int parent = 0; parent < places; parent++) {
                    if (strangers(parent, child) != other.strangers(parent, child)) {
                        return false;
                    }
                }
            }
            return true;
        }
    }

    /** ODDS of all PLACES, and which PLACES are HELD at what. */
    private static final class Tables {
        private final int[][] eighths;
        private int held;
        private int heldValues;

        private Tables() {
            eighths = new int[MOST_PLACES][ROW_ROOM];
            held = 0;
            heldValues = 0;
        }

        private void startRows(int place) {
            Arrays.fill(eighths[place], FIRST_ODDS);
        }

        private void releaseAll() {
            held = 0;
            heldValues = 0;
        }

        private void setHeld(int place, int value) {
            held &= ~bit(place);
            heldValues &= ~bit(place);
            if (value != NONE) {
                held |= bit(place);
                heldValues |= value << place;
            }
        }

        private int heldAt(int place) {
            if (!has(held, place)) {
                return NONE;
            }
            return heldValues >> place & 1;
        }

        /** WEIGHT of VALUES of all PLACES. */
        private long product(Graph graph, int values) {
            if (((values ^ heldValues) & held) != 0) {
                return 0;
            }
            long product = 1;
            for (int p = 0; p < graph.places && product != 0; p++) {
                product *= has(held, p) ? CASES : factor(graph, p, values);
            }
            return product;
        }

        private int factor(Graph graph, int place, int values) {
            int odds = eighths[place][rowIn(graph.parents[place], values)];
            return has(values, place) ? odds : CASES - odds;
        }

        private static int rowIn(int parents, int values) {
            int row = 0;
            int place = 0;
            for (int p = 0; p < MOST_PLACES; p++) {
                if (has(parents, p)) {
                    row |= (values >> p & 1) << place;
                    place++;
                }
            }
            return row;
        }
    }

    /** Sums of WEIGHTS by the VALUES of one SET. */
    private static final class Margin {
        private int set;
        private final long[] sums;

        private Margin() {
            set = 0;
            sums = new long[VALUES_ROOM];
        }

        private void start(int newSet) {
            set = newSet;
            Arrays.fill(sums, 0L);
        }

        private void add(int values, long weight) {
            sums[values & set] += weight;
        }

        private long sum(int values) {
            return sums[values & set];
        }
    }

    /** ARCS that COUNT, and the OPEN WALKS by them. */
    private static final class Walks {
        private final int[] into;
        private final int[] outOf;
        private int given;
        private int meetable;
        private int nowAlong;
        private int nowAgainst;
        private int seenAlong;
        private int seenAgainst;

        private Walks() {
            into = new int[MOST_PLACES];
            outOf = new int[MOST_PLACES];
            given = 0;
            meetable = 0;
            nowAlong = 0;
            nowAgainst = 0;
            seenAlong = 0;
            seenAgainst = 0;
        }

        /** ARCS that come to a place of noneInto, or go out of one of noneOutOf, do not COUNT. */
        private void lookAt(Graph graph, int noneInto, int noneOutOf) {
            for (int p = 0; p < MOST_PLACES; p++) {
                into[p] = has(noneInto, p) ? 0 : graph.parents[p] & ~noneOutOf;
                outOf[p] = has(noneOutOf, p) ? 0 : graph.children[p] & ~noneInto;
            }
        }

        private int below(int place) {
            return closure(outOf, outOf[place]);
        }

        private int shortest(int a, int b, int set) {
            start(a, set);
            for (int arcs = 1; arcs <= MOST_STEPS; arcs++) {
                if (has(nowAlong | nowAgainst, b)) {
                    return arcs;
                }
                step();
            }
            return NONE;
        }

        /** All PLACES to which a WALK goes that is OPEN by the SET; those in the SET mean nothing. */
        private int reached(int a, int set) {
            start(a, set);
            for (int arcs = 1; arcs <= MOST_STEPS && (nowAlong | nowAgainst) != 0; arcs++) {
                step();
            }
            return seenAlong | seenAgainst;
        }

        private void start(int a, int set) {
            given = set;
            meetable = closure(into, set);
            nowAlong = outOf[a];
            nowAgainst = into[a];
            seenAlong = nowAlong;
            seenAgainst = nowAgainst;
        }

        /** One ARC further, to each PLACE to which no WALK has come in this way before. */
        private void step() {
            // Who came against an ARC came by one that goes out of the PLACE: it meets no other there.
            int passed = nowAgainst & ~given;
            int along = union(outOf, passed | nowAlong & ~given) & ~seenAlong;
            int against = union(into, passed | nowAlong & meetable) & ~seenAgainst;
            nowAlong = along;
            nowAgainst = against;
            seenAlong |= along;
            seenAgainst |= against;
        }
    }

    /** All graphs that are ALIKE one graph: its ARCS, each this way or turned. */
    private static final class Kin {
        private final Graph first;
        private int arcs;
        private final int[] from;
        private final int[] to;
        private final int[] parents;
        private int found;
        private int turned;

        private Kin() {
            first = new Graph();
            arcs = 0;
            from = new int[MOST_ARCS];
            to = new int[MOST_ARCS];
            parents = new int[MOST_PLACES];
            found = 0;
            turned = 0;
        }

        /** Counts the graphs, and tells by turned which ARCS go the other way in one of them. */
        private void explore(Graph graph) {
            first.copy(graph);
            listArcs();
            Arrays.fill(parents, 0);
            found = 0;
            turned = 0;
            direct(0, 0);
        }

        private void listArcs() {
            arcs = 0;
            for (int parent = 0; parent < first.places; parent++) {
                for (int child = 0; child < first.places; child++) {
                    if (has(first.children[parent], child) && arcs < MOST_ARCS) {
                        from[arcs] = parent;
                        to[arcs] = child;
                        arcs++;
                    }
                }
            }
        }

        private boolean isTurned(int parent, int child) {
            for (int i = 0; i < arcs; i++) {
                if (from[i] == parent && to[i] == child) {
                    return has(turned, i);
                }
            }
            return false;
        }

        /** Directs the ARCS from this index on in all ways that fit those before it. */
        private void direct(int index, int turnedSoFar) {
            if (index >= arcs) {
                found++;
                turned |= turnedSoFar;
                return;
            }
            int parent = from[index];
            int child = to[index];
            directOne(index, parent, child, turnedSoFar);
            // Where strangers' ARCS come together they must do so in every graph that is ALIKE.
            if (first.strangers(parent, child) == 0) {
                directOne(index, child, parent, turnedSoFar | bit(index));
            }
        }

        private void directOne(int index, int parent, int child, int turnedSoFar) {
            if (!meetsAsFirst(parent, child) || has(closure(parents, bit(parent)), child)) {
                return;
            }
            parents[child] |= bit(parent);
            direct(index + 1, turnedSoFar);
            parents[child] &= ~bit(parent);
        }

        /** Whether this ARC comes together with strangers' ARCS only where it does in the first graph. */
        private boolean meetsAsFirst(int parent, int child) {
            int strangers = parents[child] & ~first.neighbours(parent);
            return (strangers & ~first.strangers(parent, child)) == 0;
        }
    }
}
