// For each promise of the document: ordinary inputs, the edges that it names, and wrong inputs.
public final class PromiseTests {
    private static final int NONE = -1, BAD = -2, FULL = -3, JOINED = -4, RING = -5;
    private static final int[] NO_PLACE_OF_THREE = {-1, 3, 8, 31, 32, Integer.MAX_VALUE, Integer.MIN_VALUE};
    private static final int[] NO_SET_OF_THREE = {-1, 8, 12, 256, Integer.MAX_VALUE, Integer.MIN_VALUE};
    private static int wrong = 0;

    private static void due(String what, long got, long want) {
        if (got != want) {
            wrong++;
            System.out.println(what + " answered " + got + ", due is " + want);
        }
    }

    private static IndependenceRows places(int many) {
        IndependenceRows x = new IndependenceRows();
        for (int p = 0; p < many; p++) {
            x.place();
        }
        return x;
    }

    /** ARCS are pairs of numbers, one behind the other. */
    private static IndependenceRows graph(int many, int... ends) {
        IndependenceRows x = places(many);
        for (int i = 0; i + 1 < ends.length; i += 2) {
            due("arc(" + ends[i] + ", " + ends[i + 1] + ")", x.arc(ends[i], ends[i + 1]), i / 2 + 1);
        }
        return x;
    }

    private static IndependenceRows fiveAllJoined() {
        return graph(5, 0, 1, 0, 2, 0, 3, 0, 4, 1, 2, 1, 3, 1, 4, 2, 3, 2, 4, 3, 4);
    }

    public static void main(String[] args) {
        constants();
        promise1NewObject();
        promise2Clear();
        promise3Place();
        promise4Arc();
        promise5Cut();
        promise6Odds();
        promise6OddsStartAgain();
        promise7Hold();
        promise8Told();
        promise9Of();
        promise10Separated();
        promise10SeparatedWhenHeld();
        promise11Walk();
        promise12Weight();
        promise12WeightOfRowsAndHeld();
        promise13Independent();
        promise14Differ();
        promise15Blanket();
        promise16Least();
        promise17Enough();
        promise18Keep();
        promise19Alike();
        promise20Settled();
        promise21Family();
        promise22Count();
        refusedChangesNothing();
        System.out.println(wrong == 0 ? "all answers are as due" : wrong + " answers are not as due");
        if (wrong != 0) {
            System.exit(1);
        }
    }

    private static void constants() {
        due("NONE", IndependenceRows.NONE, NONE);
        due("BAD", IndependenceRows.BAD, BAD);
        due("FULL", IndependenceRows.FULL, FULL);
        due("JOINED", IndependenceRows.JOINED, JOINED);
        due("RING", IndependenceRows.RING, RING);
    }

    private static void promise1NewObject() {
        IndependenceRows x = new IndependenceRows();
        due("1 count(0)", x.count(0), 0);
        due("1 count(1)", x.count(1), 0);
        due("1 count(2)", x.count(2), 0);
        due("1 count(3)", x.count(3), 0);
        due("1 alike()", x.alike(), NONE);
        due("1 family()", x.family(), 1);
        due("1 weight(0, 0)", x.weight(0, 0), 1);
        due("1 of(0, 0)", x.of(0, 0), BAD);
        due("1 blanket(0)", x.blanket(0), BAD);
        due("1 told(0, 0)", x.told(0, 0), BAD);
        due("1 hold(0, 0)", x.hold(0, 0), BAD);
        due("1 least(0, 1)", x.least(0, 1), BAD);
    }

    private static void promise2Clear() {
        IndependenceRows x = graph(3, 0, 1, 1, 2);
        x.odds(0, 0, 7);
        x.odds(1, 1, 3);
        x.hold(0, 1);
        x.keep();
        due("2 clear()", x.clear(), 3);
        due("2 clear() again", x.clear(), 0);
        due("2 count(0)", x.count(0), 0);
        due("2 count(1)", x.count(1), 0);
        due("2 count(3)", x.count(3), 0);
        due("2 alike()", x.alike(), NONE);
        for (int p = 0; p < 3; p++) {
            due("2 place()", x.place(), p);
        }
        due("2 alike() of as many", x.alike(), NONE);
        due("2 of(1, 0)", x.of(1, 0), 0);
        due("2 of(1, 1)", x.of(1, 1), 0);
        due("2 of(0, 3)", x.of(0, 3), NONE);
        due("2 told(0, 0)", x.told(0, 0), 4);
        due("2 arc(2, 1)", x.arc(2, 1), 1);
        due("2 told(1, 1)", x.told(1, 1), 4);
        IndependenceRows full = places(8);
        due("2 clear() of eight", full.clear(), 8);
        due("2 place() after it", full.place(), 0);
    }

    private static void promise3Place() {
        IndependenceRows x = new IndependenceRows();
        for (int p = 0; p < 8; p++) {
            due("3 place()", x.place(), p);
            due("3 count(0)", x.count(0), p + 1);
            due("3 told", x.told(p, 0), 4);
            due("3 of 3", x.of(p, 3), NONE);
            due("3 of 4", x.of(p, 4), 1);
        }
        due("3 place() of a ninth", x.place(), FULL);
        due("3 place() once more", x.place(), FULL);
        due("3 count(0)", x.count(0), 8);
    }

    private static void promise4Arc() {
        IndependenceRows x = places(3);
        due("4 arc(0, 1)", x.arc(0, 1), 1);
        due("4 arc(0, 1) again", x.arc(0, 1), JOINED);
        due("4 arc(1, 0)", x.arc(1, 0), JOINED);
        due("4 arc(1, 2)", x.arc(1, 2), 2);
        due("4 arc(2, 0)", x.arc(2, 0), RING);
        due("4 arc(0, 2)", x.arc(0, 2), 3);
        due("4 arc(0, 0)", x.arc(0, 0), BAD);
        for (int none : NO_PLACE_OF_THREE) {
            due("4 arc(" + none + ", 0)", x.arc(none, 0), BAD);
            due("4 arc(0, " + none + ")", x.arc(0, none), BAD);
            due("4 arc(both " + none + ")", x.arc(none, none), BAD);
        }
        IndependenceRows ways = graph(4, 0, 1, 1, 2, 2, 3);
        ways.hold(2, 0);
        due("4 arc(3, 0) though one is HELD between", ways.arc(3, 0), RING);
        IndependenceRows full = fiveAllJoined();
        due("4 place()", full.place(), 5);
        due("4 arc(4, 5) as an eleventh", full.arc(4, 5), FULL);
        due("4 arc(4, 0) when full", full.arc(4, 0), JOINED);
        due("4 arc(9, 0) when full", full.arc(9, 0), BAD);
        due("4 cut(0, 4)", full.cut(0, 4), 9);
        due("4 arc(4, 5) as a tenth", full.arc(4, 5), 10);
        due("4 arc(4, 0) when full", full.arc(4, 0), RING);
        due("4 arc(5, 0) when full", full.arc(5, 0), RING);
        due("4 arc(0, 5) when full", full.arc(0, 5), FULL);
    }

    private static void promise5Cut() {
        IndependenceRows x = graph(3, 0, 1, 1, 2);
        due("5 cut(1, 0)", x.cut(1, 0), NONE);
        due("5 cut(0, 2)", x.cut(0, 2), NONE);
        due("5 cut(1, 1)", x.cut(1, 1), BAD);
        for (int none : NO_PLACE_OF_THREE) {
            due("5 cut(" + none + ", 0)", x.cut(none, 0), BAD);
            due("5 cut(0, " + none + ")", x.cut(0, none), BAD);
        }
        due("5 count(1)", x.count(1), 2);
        due("5 cut(0, 1)", x.cut(0, 1), 1);
        due("5 of(0, 1)", x.of(0, 1), 0);
        due("5 of(1, 0)", x.of(1, 0), 0);
        due("5 cut(0, 1) again", x.cut(0, 1), NONE);
        due("5 arc(2, 0)", x.arc(2, 0), 2);
        due("5 cut(1, 2)", x.cut(1, 2), 1);
        due("5 cut(2, 0)", x.cut(2, 0), 0);
    }

    private static void promise6Odds() {
        IndependenceRows x = graph(3, 0, 2, 1, 2);
        due("6 odds(2, 3, 8)", x.odds(2, 3, 8), 4);
        due("6 odds(2, 3, 0)", x.odds(2, 3, 0), 8);
        due("6 odds(2, 3, 5)", x.odds(2, 3, 5), 0);
        due("6 odds(2, 2, 1)", x.odds(2, 2, 1), 4);
        due("6 odds(2, 4, 1)", x.odds(2, 4, 1), BAD);
        due("6 odds(2, -1, 1)", x.odds(2, -1, 1), BAD);
        due("6 odds(0, 1, 1)", x.odds(0, 1, 1), BAD);
        due("6 odds(0, 0, 9)", x.odds(0, 0, 9), BAD);
        due("6 odds(0, 0, -1)", x.odds(0, 0, -1), BAD);
        due("6 odds row too great", x.odds(0, Integer.MAX_VALUE, 1), BAD);
        due("6 odds row too small", x.odds(0, Integer.MIN_VALUE, 1), BAD);
        for (int none : NO_PLACE_OF_THREE) {
            due("6 odds(" + none + ", 0, 0)", x.odds(none, 0, 0), BAD);
        }
        x.hold(2, 1);
        due("6 odds of a HELD place in its last ROW", x.odds(2, 3, 6), 5);
        IndependenceRows star = graph(8, 0, 7, 1, 7, 2, 7, 3, 7, 4, 7, 5, 7, 6, 7);
        due("6 odds(7, 127, 3)", star.odds(7, 127, 3), 4);
        due("6 odds(7, 128, 3)", star.odds(7, 128, 3), BAD);
        due("6 told(7, 127)", star.told(7, 127), 3);
    }

    private static void promise6OddsStartAgain() {
        IndependenceRows x = graph(4, 0, 2, 1, 2, 2, 3);
        for (int row = 0; row < 4; row++) {
            x.odds(2, row, row);
        }
        x.odds(0, 0, 7);
        x.odds(3, 1, 6);
        due("6 cut(1, 2)", x.cut(1, 2), 2);
        due("6 told(2, 0)", x.told(2, 0), 4);
        due("6 told(2, 1)", x.told(2, 1), 4);
        due("6 told(0, 0) of a place that lost a CHILD's PARENT", x.told(0, 0), 7);
        due("6 told(3, 1) of its CHILD", x.told(3, 1), 6);
        x.odds(2, 1, 1);
        due("6 arc(1, 2)", x.arc(1, 2), 3);
        for (int row = 0; row < 4; row++) {
            due("6 told(2, row)", x.told(2, row), 4);
        }
        x.odds(2, 2, 0);
        due("6 cut(2, 3)", x.cut(2, 3), 2);
        due("6 told(2, 2) after a CHILD is lost", x.told(2, 2), 0);
        due("6 told(3, 0)", x.told(3, 0), 4);
    }

    private static void promise7Hold() {
        IndependenceRows x = places(3);
        due("7 hold(1, 1)", x.hold(1, 1), NONE);
        due("7 hold(1, 0)", x.hold(1, 0), 1);
        due("7 hold(1, 0) again", x.hold(1, 0), 0);
        due("7 of(1, 3)", x.of(1, 3), 0);
        due("7 of(0, 3)", x.of(0, 3), NONE);
        due("7 hold(1, NONE)", x.hold(1, NONE), 0);
        due("7 hold(1, NONE) again", x.hold(1, NONE), NONE);
        due("7 hold(2, 1)", x.hold(2, 1), NONE);
        due("7 hold(2, 2)", x.hold(2, 2), BAD);
        due("7 hold(2, -2)", x.hold(2, -2), BAD);
        due("7 hold(2, most)", x.hold(2, Integer.MAX_VALUE), BAD);
        due("7 of(2, 3)", x.of(2, 3), 1);
        for (int none : NO_PLACE_OF_THREE) {
            due("7 hold(" + none + ", 0)", x.hold(none, 0), BAD);
        }
    }

    private static void promise8Told() {
        IndependenceRows x = graph(3, 0, 2, 1, 2);
        x.odds(2, 1, 7);
        due("8 told(2, 0)", x.told(2, 0), 4);
        due("8 told(2, 1)", x.told(2, 1), 7);
        due("8 told(2, 4)", x.told(2, 4), BAD);
        due("8 told(2, -1)", x.told(2, -1), BAD);
        due("8 told(0, 1)", x.told(0, 1), BAD);
        for (int none : NO_PLACE_OF_THREE) {
            due("8 told(" + none + ", 0)", x.told(none, 0), BAD);
        }
    }

    private static void promise9Of() {
        IndependenceRows x = graph(5, 0, 1, 0, 2, 1, 3, 2, 3, 3, 4);
        due("9 of(3, 0)", x.of(3, 0), 6);
        due("9 of(0, 0)", x.of(0, 0), 0);
        due("9 of(0, 1)", x.of(0, 1), 6);
        due("9 of(0, 2)", x.of(0, 2), 30);
        due("9 of(4, 2)", x.of(4, 2), 0);
        due("9 of(3, 4)", x.of(3, 4), 4);
        due("9 of(0, 4)", x.of(0, 4), 1);
        x.hold(3, 1);
        due("9 of(3, 0) HELD", x.of(3, 0), 6);
        due("9 of(1, 1) to a HELD one", x.of(1, 1), 8);
        due("9 of(0, 2) with a HELD one", x.of(0, 2), 6);
        due("9 of(3, 2) HELD", x.of(3, 2), 16);
        due("9 of(3, 3)", x.of(3, 3), 1);
        due("9 of(3, 4) HELD", x.of(3, 4), 4);
        due("9 of(0, 5)", x.of(0, 5), BAD);
        due("9 of(0, -1)", x.of(0, -1), BAD);
        due("9 of(5, 0)", x.of(5, 0), BAD);
        due("9 of(-1, 0)", x.of(-1, 0), BAD);
    }

    private static void promise10Separated() {
        IndependenceRows x = graph(3, 0, 1, 1, 2);
        due("10 separated(0, 2, 0)", x.separated(0, 2, 0), 0);
        due("10 separated(2, 0, 2)", x.separated(2, 0, 2), 1);
        due("10 separated(0, 1, 4)", x.separated(0, 1, 4), 0);
        due("10 separated(0, 0, 0)", x.separated(0, 0, 0), BAD);
        due("10 separated(0, 1, 1)", x.separated(0, 1, 1), BAD);
        due("10 separated(0, 1, 2)", x.separated(0, 1, 2), BAD);
        for (int none : NO_PLACE_OF_THREE) {
            due("10 separated(" + none + ", 0, 0)", x.separated(none, 0, 0), BAD);
            due("10 separated(0, " + none + ", 0)", x.separated(0, none, 0), BAD);
        }
        for (int none : NO_SET_OF_THREE) {
            due("10 separated(0, 1, " + none + ")", x.separated(0, 1, none), BAD);
        }
        IndependenceRows fork = graph(3, 1, 0, 1, 2);
        due("10 fork", fork.separated(0, 2, 0), 0);
        due("10 fork given", fork.separated(0, 2, 2), 1);
        IndependenceRows meet = graph(5, 0, 2, 1, 2, 2, 3, 3, 4);
        due("10 meet", meet.separated(0, 1, 0), 1);
        due("10 meet given", meet.separated(0, 1, 4), 0);
        due("10 meet given far BELOW", meet.separated(0, 1, 16), 0);
        due("10 no arcs", places(2).separated(0, 1, 0), 1);
    }

    private static void promise10SeparatedWhenHeld() {
        IndependenceRows x = graph(5, 0, 2, 1, 2, 2, 3, 3, 4);
        x.hold(3, 0);
        due("10 what is BELOW a HELD one tells nothing", x.separated(0, 1, 16), 1);
        due("10 the HELD one tells nothing", x.separated(0, 1, 8), 1);
        due("10 ARCS out of a HELD one COUNT", x.separated(3, 4, 0), 0);
        due("10 ARCS to a HELD one do not", x.separated(2, 3, 0), 1);
        x.hold(3, NONE);
        due("10 let go", x.separated(2, 3, 0), 0);
    }

    private static void promise11Walk() {
        IndependenceRows x = graph(4, 0, 1, 1, 2, 2, 3, 0, 3);
        due("11 walk(1, 3, 0)", x.walk(1, 3, 0), 2);
        due("11 walk(1, 3, 1)", x.walk(1, 3, 1), 2);
        due("11 walk(1, 3, 4)", x.walk(1, 3, 4), 2);
        due("11 walk(1, 3, 5)", x.walk(1, 3, 5), NONE);
        due("11 walk(0, 2, 2)", x.walk(0, 2, 2), NONE);
        due("11 walk(0, 2, 10)", x.walk(0, 2, 10), 2);
        due("11 walk(0, 3, 6)", x.walk(0, 3, 6), 1);
        due("11 walk(3, 0, 6)", x.walk(3, 0, 6), 1);
        due("11 walk(0, 0, 0)", x.walk(0, 0, 0), BAD);
        due("11 walk(0, 1, 1)", x.walk(0, 1, 1), BAD);
        due("11 walk(0, 1, 2)", x.walk(0, 1, 2), BAD);
        due("11 walk(0, 1, 16)", x.walk(0, 1, 16), BAD);
        due("11 walk(0, 1, -1)", x.walk(0, 1, -1), BAD);
        due("11 walk(4, 1, 0)", x.walk(4, 1, 0), BAD);
        due("11 walk(0, -1, 0)", x.walk(0, -1, 0), BAD);
        IndependenceRows way = graph(8, 0, 1, 1, 2, 2, 3, 3, 4, 4, 5, 5, 6, 6, 7);
        due("11 the longest way", way.walk(7, 0, 0), 7);
        way.hold(4, 1);
        due("11 a HELD one on the way", way.walk(7, 0, 0), NONE);
        due("11 from the HELD one", way.walk(4, 7, 0), 3);
    }

    private static void promise12Weight() {
        IndependenceRows x = graph(2, 0, 1);
        x.odds(0, 0, 3);
        x.odds(1, 0, 1);
        x.odds(1, 1, 8);
        due("12 weight(3, 0)", x.weight(3, 0), 5 * 7);
        due("12 weight(3, 1)", x.weight(3, 1), 0);
        due("12 weight(3, 2)", x.weight(3, 2), 5 * 1);
        due("12 weight(3, 3)", x.weight(3, 3), 3 * 8);
        due("12 weight(2, 2)", x.weight(2, 2), 29);
        due("12 weight(2, 3) with a bit of another", x.weight(2, 3), 29);
        due("12 weight(1, 0)", x.weight(1, 0), 40);
        due("12 weight(0, 0)", x.weight(0, 0), 64);
        due("12 weight(0, 3)", x.weight(0, 3), 64);
        due("12 weight(4, 0)", x.weight(4, 0), BAD);
        due("12 weight(0, 4)", x.weight(0, 4), BAD);
        due("12 weight(-1, 0)", x.weight(-1, 0), BAD);
        due("12 weight(0, -1)", x.weight(0, -1), BAD);
        due("12 weight(least, 0)", x.weight(Integer.MIN_VALUE, 0), BAD);
        due("12 weight(0, least)", x.weight(0, Integer.MIN_VALUE), BAD);
        due("12 weight of eight", places(8).weight(0, 255), 1L << 24);
    }

    private static void promise12WeightOfRowsAndHeld() {
        IndependenceRows x = graph(4, 3, 2, 0, 2, 1, 2);
        x.odds(2, 1, 1);
        x.odds(2, 2, 2);
        x.odds(2, 4, 3);
        due("12 ROW 1 is PARENT 0", x.weight(15, 4 | 1), 4 * 4 * 1 * 4);
        due("12 ROW 2 is PARENT 1", x.weight(15, 4 | 2), 4 * 4 * 2 * 4);
        due("12 ROW 4 is PARENT 3", x.weight(15, 4 | 8), 4 * 4 * 3 * 4);
        x.hold(2, 1);
        due("12 HELD at 1", x.weight(15, 4 | 1), 4 * 4 * 8 * 4);
        due("12 HELD at 1, but 0", x.weight(15, 1), 0);
        due("12 HELD, all", x.weight(0, 0), 4096);
        x.hold(2, 0);
        due("12 HELD at 0", x.weight(4, 0), 4096);
        due("12 HELD at 0, but 1", x.weight(4, 4), 0);
        x.hold(2, NONE);
        x.hold(3, 1);
        due("12 ROWS are of HELD PARENTS, too", x.weight(15, 12), 4 * 4 * 3 * 8);
    }

    private static void promise13Independent() {
        IndependenceRows x = graph(3, 0, 1, 1, 2);
        due("13 ODDS that tell nothing", x.independent(0, 2, 0), 1);
        x.odds(1, 1, 5);
        x.odds(2, 1, 5);
        due("13 independent(0, 2, 0)", x.independent(0, 2, 0), 0);
        due("13 independent(2, 0, 2)", x.independent(2, 0, 2), 1);
        x.hold(1, 1);
        due("13 independent(0, 2, 0) HELD", x.independent(0, 2, 0), 1);
        due("13 independent(0, 1, 0) HELD", x.independent(0, 1, 0), 1);
        x.hold(1, NONE);
        x.hold(0, 1);
        due("13 one HELD is INDEPENDENT of all", x.independent(0, 1, 0), 1);
        due("13 though it is not SEPARATED", x.separated(0, 1, 0), 0);
        due("13 independent(1, 1, 0)", x.independent(1, 1, 0), BAD);
        due("13 independent(0, 1, 2)", x.independent(0, 1, 2), BAD);
        due("13 independent(0, 1, 1)", x.independent(0, 1, 1), BAD);
        for (int none : NO_PLACE_OF_THREE) {
            due("13 independent(" + none + ", 0, 0)", x.independent(none, 0, 0), BAD);
            due("13 independent(0, " + none + ", 0)", x.independent(0, none, 0), BAD);
        }
        for (int none : NO_SET_OF_THREE) {
            due("13 independent(0, 1, " + none + ")", x.independent(0, 1, none), BAD);
        }
    }

    private static void promise14Differ() {
        IndependenceRows x = graph(4, 0, 3, 1, 3, 2, 3);
        due("14 they are", x.differ(0, 1, 12), NONE);
        x.odds(3, 7, 0);
        due("14 only where 2 is 1", x.differ(0, 1, 4 | 8), 4);
        due("14 differ(0, 1, 8)", x.differ(0, 1, 8), 0);
        due("14 differ(0, 1, 4)", x.differ(0, 1, 4), NONE);
        x.odds(3, 7, 4);
        x.odds(3, 3, 0);
        x.odds(3, 0, 8);
        x.odds(3, 1, 8);
        x.odds(3, 2, 8);
        due("14 where 2 is 0 and 3 is 0, 3 tells both", x.differ(0, 2, 2 | 8), 2);
        due("14 differ(1, 1, 0)", x.differ(1, 1, 0), BAD);
        due("14 differ(0, 1, 1)", x.differ(0, 1, 1), BAD);
        due("14 differ(0, 1, 2)", x.differ(0, 1, 2), BAD);
        due("14 differ(0, 1, 16)", x.differ(0, 1, 16), BAD);
        due("14 differ(0, 1, -4)", x.differ(0, 1, -4), BAD);
        due("14 differ(4, 1, 0)", x.differ(4, 1, 0), BAD);
        due("14 differ(0, -1, 0)", x.differ(0, -1, 0), BAD);
    }

    private static void promise15Blanket() {
        IndependenceRows x = graph(7, 0, 2, 1, 2, 2, 3, 4, 3, 3, 5, 6, 4);
        due("15 PARENTS, CHILDREN, their other PARENTS", x.blanket(2), 1 | 2 | 8 | 16);
        due("15 blanket(0)", x.blanket(0), 2 | 4);
        due("15 blanket(5)", x.blanket(5), 8);
        x.hold(3, 0);
        due("15 a HELD CHILD does not COUNT", x.blanket(2), 1 | 2);
        due("15 a HELD one", x.blanket(3), 32);
        due("15 blanket(7)", x.blanket(7), BAD);
        due("15 blanket(-1)", x.blanket(-1), BAD);
        due("15 blanket(most)", x.blanket(Integer.MAX_VALUE), BAD);
        due("15 alone", places(1).blanket(0), 0);
        IndependenceRows star = graph(8, 0, 7, 1, 7, 2, 7, 3, 7, 4, 7, 5, 7, 6, 7);
        due("15 all others", star.blanket(3), 255 - 8);
    }

    private static void promise16Least() {
        IndependenceRows x = graph(4, 0, 1, 1, 2, 2, 3);
        due("16 of as many the least", x.least(0, 3), 2);
        due("16 the other way", x.least(3, 0), 2);
        due("16 joined", x.least(0, 1), NONE);
        due("16 least(1, 1)", x.least(1, 1), BAD);
        due("16 least(4, 1)", x.least(4, 1), BAD);
        due("16 least(1, -1)", x.least(1, -1), BAD);
        IndependenceRows two = graph(5, 0, 1, 0, 2, 1, 3, 2, 3, 3, 4);
        due("16 least(0, 3)", two.least(0, 3), 6);
        due("16 least(0, 4): fewer before lesser", two.least(0, 4), 8);
        due("16 least(1, 2)", two.least(1, 2), 1);
        two.hold(3, 1);
        due("16 HELD", two.least(1, 3), 0);
        due("16 none between", places(2).least(1, 0), 0);
    }

    private static void promise17Enough() {
        IndependenceRows x = graph(4, 0, 1, 0, 2, 1, 2, 2, 3);
        due("17 enough(1, 2, 0)", x.enough(1, 2, 0), 0);
        due("17 enough(1, 2, 1)", x.enough(1, 2, 1), 1);
        due("17 one is BELOW", x.enough(1, 2, 9), 0);
        due("17 one is BELOW, though SEPARATED", x.enough(0, 3, 2), 0);
        due("17 nothing comes to 0", x.enough(0, 3, 0), 1);
        due("17 back against the ARCS", x.enough(2, 0, 0), 0);
        due("17 enough(2, 3, 3)", x.enough(2, 3, 3), 1);
        x.hold(1, 0);
        due("17 HELD", x.enough(1, 2, 0), 1);
        due("17 a HELD one is not BELOW", x.enough(0, 2, 2), 1);
        due("17 enough(1, 1, 0)", x.enough(1, 1, 0), BAD);
        due("17 enough(1, 2, 2)", x.enough(1, 2, 2), BAD);
        due("17 enough(1, 2, 4)", x.enough(1, 2, 4), BAD);
        due("17 enough(1, 2, 16)", x.enough(1, 2, 16), BAD);
        due("17 enough(1, 2, -1)", x.enough(1, 2, -1), BAD);
        due("17 enough(4, 2, 0)", x.enough(4, 2, 0), BAD);
        due("17 enough(0, 4, 0)", x.enough(0, 4, 0), BAD);
        IndependenceRows meets = graph(5, 0, 2, 1, 2, 0, 3, 1, 4, 3, 4);
        due("17 where ARCS MEET it is shut", meets.enough(3, 4, 0), 1);
        due("17 and open by what is given", meets.enough(3, 4, 4), 0);
        due("17 and shut again", meets.enough(3, 4, 5), 1);
    }

    private static void promise18Keep() {
        IndependenceRows x = new IndependenceRows();
        due("18 keep() of nothing", x.keep(), 0);
        due("18 alike()", x.alike(), 1);
        x.place();
        x.place();
        due("18 arc", x.arc(1, 0), 1);
        due("18 keep()", x.keep(), 1);
        x.cut(1, 0);
        due("18 what is KEPT does not change", x.alike(), 0);
        due("18 keep() again", x.keep(), 0);
        due("18 the last one is KEPT", x.alike(), 1);
        due("18 keep() of ten", fiveAllJoined().keep(), 10);
    }

    private static void promise19Alike() {
        IndependenceRows x = graph(3, 0, 1, 1, 2);
        due("19 none KEPT", x.alike(), NONE);
        x.keep();
        due("19 itself", x.alike(), 1);
        x.hold(1, 0);
        due("19 HELD or not", x.alike(), 1);
        x.cut(0, 1);
        due("19 fewer", x.alike(), 0);
        x.arc(1, 0);
        due("19 fork", x.alike(), 1);
        x.cut(1, 0);
        x.arc(0, 1);
        x.cut(1, 2);
        x.arc(2, 1);
        due("19 meet", x.alike(), 0);
        x.place();
        due("19 more PLACES", x.alike(), NONE);
        x.clear();
        due("19 cleared", x.alike(), NONE);
        IndependenceRows other = graph(3, 0, 1);
        other.keep();
        other.cut(0, 1);
        other.arc(1, 2);
        due("19 as many ARCS, but others", other.alike(), 0);
        IndependenceRows turned = graph(3, 0, 1, 1, 2, 0, 2);
        turned.keep();
        turned.cut(0, 2);
        turned.cut(0, 1);
        turned.arc(1, 0);
        turned.arc(2, 0);
        due("19 all three joined, another way", turned.alike(), 1);
    }

    private static void promise20Settled() {
        IndependenceRows x = graph(4, 0, 2, 1, 2, 2, 3);
        due("20 it MEETS", x.settled(0, 2), 1);
        due("20 it would MEET", x.settled(2, 3), 1);
        due("20 no such", x.settled(2, 0), NONE);
        due("20 no such", x.settled(0, 3), NONE);
        due("20 settled(1, 1)", x.settled(1, 1), BAD);
        due("20 settled(4, 1)", x.settled(4, 1), BAD);
        due("20 settled(1, 4)", x.settled(1, 4), BAD);
        due("20 settled(-1, 1)", x.settled(-1, 1), BAD);
        x.hold(2, 0);
        due("20 HELD or not", x.settled(0, 2), 1);
        x.cut(1, 2);
        due("20 a way", x.settled(0, 2), 0);
        due("20 a way", x.settled(2, 3), 0);
        IndependenceRows ring = graph(4, 0, 1, 0, 2, 1, 3, 2, 3, 0, 3);
        due("20 else it would be a RING", ring.settled(0, 3), 1);
        due("20 free", ring.settled(0, 1), 0);
    }

    private static void promise21Family() {
        due("21 no ARCS", places(8).family(), 1);
        due("21 one ARC", graph(2, 1, 0).family(), 2);
        due("21 three joined", graph(3, 0, 1, 1, 2, 0, 2).family(), 6);
        due("21 a way", graph(3, 0, 1, 1, 2).family(), 3);
        due("21 a meet", graph(3, 0, 1, 2, 1).family(), 1);
        due("21 apart", graph(4, 0, 1, 2, 3).family(), 4);
        due("21 a star out", graph(8, 0, 1, 0, 2, 0, 3, 0, 4, 0, 5, 0, 6, 0, 7).family(), 8);
        due("21 five joined", fiveAllJoined().family(), 120);
        IndependenceRows x = graph(3, 0, 1, 1, 2);
        x.hold(1, 1);
        due("21 HELD or not", x.family(), 3);
    }

    private static void promise22Count() {
        IndependenceRows x = graph(5, 0, 2, 1, 2, 3, 4);
        x.hold(0, 0);
        x.hold(2, 1);
        x.hold(2, 0);
        due("22 count(0)", x.count(0), 5);
        due("22 count(1)", x.count(1), 3);
        due("22 count(2)", x.count(2), 2);
        due("22 count(3)", x.count(3), 2);
        x.hold(0, NONE);
        due("22 count(3)", x.count(3), 1);
        due("22 count(4)", x.count(4), BAD);
        due("22 count(-1)", x.count(-1), BAD);
        due("22 count(most)", x.count(Integer.MAX_VALUE), BAD);
        due("22 count(2) of five joined", fiveAllJoined().count(2), 0);
    }

    private static void refusedChangesNothing() {
        IndependenceRows x = graph(3, 0, 1, 1, 2);
        x.odds(1, 1, 7);
        x.odds(2, 0, 2);
        x.hold(2, 1);
        x.keep();
        x.arc(2, 0);
        x.arc(1, 0);
        x.arc(1, 1);
        x.cut(2, 1);
        x.cut(0, 9);
        x.odds(1, 1, 9);
        x.odds(1, 2, 3);
        x.hold(2, 2);
        due("refused: count(1)", x.count(1), 2);
        due("refused: told(1, 1)", x.told(1, 1), 7);
        due("refused: told(2, 0)", x.told(2, 0), 2);
        due("refused: of(2, 3)", x.of(2, 3), 1);
        due("refused: of(1, 0)", x.of(1, 0), 1);
        due("refused: of(1, 1)", x.of(1, 1), 4);
        due("refused: alike()", x.alike(), 1);
    }
}
