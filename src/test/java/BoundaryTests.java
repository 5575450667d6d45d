// Each sentence of the document that names a boundary case (too small, too large, empty, full, a refused call),
// by the words of the sentence: what lies on either side of the boundary, and what a refusal must leave as it was.
public final class BoundaryTests {
    private static final int NONE = -1, BAD = -2, FULL = -3, JOINED = -4, RING = -5;
    private static final int LEAST = Integer.MIN_VALUE, MOST = Integer.MAX_VALUE;
    private static int wrong = 0;
    private static String where = "";

    /** What is tested from here on: a promise's number (0: the terms) and words of the document. */
    private static void sentence(int promise, String words) {
        where = (promise == 0 ? "terms" : "promise " + promise) + ", '" + words + "': ";
    }

    private static void due(String call, long got, long want) {
        if (got != want) {
            wrong++;
            System.out.println(where + call + " answered " + got + ", due is " + want);
        }
    }

    public static void main(String[] args) {
        termsOfPlaces();
        termsOfArcs();
        termsOfRowsAndOdds();
        termsOfHeld();
        termsOfWeight();
        termsOfWalks();
        termsOfIndependence();
        termsOfRefusals();
        newObject();
        clear();
        place();
        arc();
        arcRefused();
        cut();
        odds();
        hold();
        told();
        of();
        ofRefused();
        separated();
        walk();
        weight();
        independent();
        differ();
        blanket();
        least();
        enough();
        keep();
        alike();
        settled();
        family();
        count();
        badQuestions();
        badPairs();
        refusedChangesNothing();
        questionsChangeNothing();
        objectsAreApart();
        lastOfAllCalls();
        System.out.println(wrong == 0 ? "all answers are as due" : wrong + " answers are not as due");
        if (wrong != 0) {
            System.exit(1);
        }
    }

    // ---- graphs that stand at a boundary

    private static IndependenceRows places(int many) {
        IndependenceRows x = new IndependenceRows();
        for (int p = 0; p < many; p++) {
            due("place()", x.place(), p);
        }
        return x;
    }

    /** ARCS are pairs of numbers, one behind the other. */
    private static IndependenceRows graph(int many, int... ends) {
        IndependenceRows x = places(many);
        for (int i = 0; i + 1 < ends.length; i += 2) {
            due("arc(" + ends[i] + ", " + ends[i + 1] + ")", x.arc(ends[i], ends[i + 1]), i / 2 + 1);
        }
        return x;
    }

    /** From the first of so many PLACES along ARCS to the last one. */
    private static IndependenceRows way(int many) {
        IndependenceRows x = places(many);
        for (int p = 0; p + 1 < many; p++) {
            due("arc(" + p + ", " + (p + 1) + ")", x.arc(p, p + 1), p + 1);
        }
        return x;
    }

    /** One PLACE that is the CHILD of all seven others. */
    private static IndependenceRows sevenToOne(int child) {
        IndependenceRows x = places(8);
        for (int p = 0; p < 8; p++) {
            if (p != child) {
                x.arc(p, child);
            }
        }
        due("count(1)", x.count(1), 7);
        return x;
    }

    /** One PLACE that is the PARENT of all seven others. */
    private static IndependenceRows oneToSeven(int parent) {
        IndependenceRows x = places(8);
        for (int p = 0; p < 8; p++) {
            if (p != parent) {
                x.arc(parent, p);
            }
        }
        due("count(1)", x.count(1), 7);
        return x;
    }

    /** So many PLACES, the first five all joined: ten ARCS. */
    private static IndependenceRows fiveAllJoined(int many) {
        return graph(many, 0, 1, 0, 2, 0, 3, 0, 4, 1, 2, 1, 3, 1, 4, 2, 3, 2, 4, 3, 4);
    }

    /** 0 and 1 are the PARENTS of 2, .., 6: ten ARCS, and each MEETS another one. */
    private static IndependenceRows twoToFive() {
        return graph(7, 0, 2, 1, 2, 0, 3, 1, 3, 0, 4, 1, 4, 0, 5, 1, 5, 0, 6, 1, 6);
    }

    // ---- what it is, and the terms

    private static void termsOfPlaces() {
        sentence(0, "PLACES 0, 1, .., 8 at most");
        IndependenceRows x = places(8);
        due("of(7, 4)", x.of(7, 4), 1);
        due("of(8, 4)", x.of(8, 4), BAD);
        due("place()", x.place(), FULL);
        due("of(8, 4)", x.of(8, 4), BAD);

        sentence(0, "have the value 0 or 1");
        x = places(1);
        due("hold(0, 2)", x.hold(0, 2), BAD);
        due("hold(0, 1)", x.hold(0, 1), NONE);
        due("hold(0, 0)", x.hold(0, 0), 1);
        due("weight(1, 2)", x.weight(1, 2), BAD);

        sentence(0, "bit p for PLACE p");
        x = graph(8, 7, 0);
        due("of(0, 0)", x.of(0, 0), 128);
        due("of(7, 1)", x.of(7, 1), 1);
        due("separated(7, 1, 1)", x.separated(7, 1, 1), 1);
        due("separated(0, 1, 128)", x.separated(0, 1, 128), 1);
        due("separated(0, 7, 128)", x.separated(0, 7, 128), BAD);

        sentence(0, "bit p is the value of PLACE p");
        x.odds(7, 0, 8);
        x.odds(1, 0, 0);
        due("weight(128, 128)", x.weight(128, 128), 1L << 24);
        due("weight(128, 127)", x.weight(128, 127), 0);
        due("weight(130, 128)", x.weight(130, 128), 1L << 24);
        due("weight(130, 130)", x.weight(130, 130), 0);
    }

    private static void termsOfArcs() {
        sentence(0, "ARCS, 10 at most");
        IndependenceRows x = fiveAllJoined(6);
        due("count(1)", x.count(1), 10);
        due("arc(0, 5)", x.arc(0, 5), FULL);
        due("count(1)", x.count(1), 10);

        sentence(0, "go from a PARENT to a CHILD");
        x = graph(2, 1, 0);
        due("of(0, 0)", x.of(0, 0), 2);
        due("of(0, 1)", x.of(0, 1), 0);
        due("of(1, 0)", x.of(1, 0), 0);
        due("of(1, 1)", x.of(1, 1), 1);

        sentence(0, "two PLACES have one ARC between them at most");
        due("arc(1, 0)", x.arc(1, 0), JOINED);
        due("arc(0, 1)", x.arc(0, 1), JOINED);
        due("count(1)", x.count(1), 1);

        sentence(0, "no way along ARCS comes back to where it began");
        for (int many = 3; many <= 8; many++) {
            x = way(many);
            due("arc(" + (many - 1) + ", 0)", x.arc(many - 1, 0), RING);
            due("arc(0, " + (many - 1) + ")", x.arc(0, many - 1), many);
        }
    }

    private static void termsOfRowsAndOdds() {
        sentence(0, "that of the PARENT with the least number as its lowest bit");
        IndependenceRows x = graph(4, 3, 1, 2, 1, 0, 1);
        for (int row = 0; row < 8; row++) {
            due("odds(1, " + row + ", " + row + ")", x.odds(1, row, row), 4);
        }
        due("weight(15, 3)", x.weight(15, 3), 64 * 1);
        due("weight(15, 6)", x.weight(15, 6), 64 * 2);
        due("weight(15, 10)", x.weight(15, 10), 64 * 4);
        due("weight(15, 15)", x.weight(15, 15), 64 * 7);
        due("weight(15, 2)", x.weight(15, 2), 0);
        due("weight(15, 0)", x.weight(15, 0), 64 * 8);

        sentence(0, "in how many of eight cases it is 1 then (0 .. 8");
        x = places(1);
        due("odds(0, 0, 0)", x.odds(0, 0, 0), 4);
        due("weight(1, 1)", x.weight(1, 1), 0);
        due("weight(1, 0)", x.weight(1, 0), 8);
        due("odds(0, 0, 8)", x.odds(0, 0, 8), 0);
        due("weight(1, 1)", x.weight(1, 1), 8);
        due("weight(1, 0)", x.weight(1, 0), 0);
        due("odds(0, 0, 9)", x.odds(0, 0, 9), BAD);
        due("odds(0, 0, -1)", x.odds(0, 0, -1), BAD);
        due("told(0, 0)", x.told(0, 0), 8);

        sentence(0, "4 at first");
        x = sevenToOne(3);
        for (int row = 0; row < 128; row++) {
            due("told(3, " + row + ")", x.told(3, row), 4);
        }
        due("told(0, 0)", x.told(0, 0), 4);
        due("told(7, 0)", x.told(7, 0), 4);
        oddsStartAgain();
    }

    private static void oddsStartAgain() {
        sentence(0, "in all ROWS again when it gets");
        IndependenceRows x = graph(5, 0, 2, 1, 2);
        setAllRows(x, 2, 4, 7);
        setAllRows(x, 3, 1, 6);
        due("arc(3, 2)", x.arc(3, 2), 3);
        for (int row = 0; row < 8; row++) {
            due("told(2, " + row + ")", x.told(2, row), 4);
        }
        due("told(3, 0) of the PARENT", x.told(3, 0), 6);

        sentence(0, "or loses a PARENT");
        setAllRows(x, 2, 8, 1);
        due("cut(0, 2)", x.cut(0, 2), 2);
        for (int row = 0; row < 4; row++) {
            due("told(2, " + row + ")", x.told(2, row), 4);
        }
        due("told(3, 0) of the PARENT", x.told(3, 0), 6);
        due("arc(0, 2)", x.arc(0, 2), 3);
        for (int row = 0; row < 8; row++) {
            due("told(2, " + row + ")", x.told(2, row), 4);
        }
        setAllRows(x, 2, 8, 1);
        due("cut(0, 2)", x.cut(0, 2), 2);
        due("cut(1, 2)", x.cut(1, 2), 1);
        due("cut(3, 2)", x.cut(3, 2), 0);
        due("told(2, 0) without a PARENT", x.told(2, 0), 4);

        sentence(0, "when it gets or loses a PARENT");
        setAllRows(x, 2, 1, 5);
        due("arc(2, 4)", x.arc(2, 4), 1);
        due("told(2, 0) with a CHILD more", x.told(2, 0), 5);
        due("cut(2, 4)", x.cut(2, 4), 0);
        due("told(2, 0) with a CHILD less", x.told(2, 0), 5);
    }

    private static void setAllRows(IndependenceRows x, int place, int rows, int eighths) {
        for (int row = 0; row < rows; row++) {
            due("odds(" + place + ", " + row + ", " + eighths + ")", x.odds(place, row, eighths), 4);
        }
    }

    private static void termsOfHeld() {
        sentence(0, "ARCS that come to a HELD PLACE do not COUNT");
        IndependenceRows x = way(3);
        x.hold(1, 0);
        due("separated(0, 1, 0)", x.separated(0, 1, 0), 1);
        due("separated(0, 2, 0)", x.separated(0, 2, 0), 1);
        due("separated(1, 2, 0) by an ARC that goes out of it", x.separated(1, 2, 0), 0);
        due("of(0, 2)", x.of(0, 2), 0);
        due("of(1, 2)", x.of(1, 2), 4);
        x.hold(1, NONE);
        due("separated(0, 1, 0) when it is let go", x.separated(0, 1, 0), 0);
        due("of(0, 2) when it is let go", x.of(0, 2), 6);

        sentence(0, "A PLACE may be HELD at a value, from outside");
        x = places(3);
        x.hold(1, 1);
        x.hold(2, 0);
        due("arc(0, 1)", x.arc(0, 1), 1);
        due("arc(1, 2)", x.arc(1, 2), 2);
        due("of(1, 3) when it has got a PARENT and a CHILD", x.of(1, 3), 1);
        due("of(2, 3) when it has got a PARENT", x.of(2, 3), 0);
        due("cut(0, 1)", x.cut(0, 1), 1);
        due("cut(1, 2)", x.cut(1, 2), 0);
        due("of(1, 3) when it has lost them", x.of(1, 3), 1);
        due("of(2, 3) when it has lost it", x.of(2, 3), 0);
        due("odds(1, 0, 0)", x.odds(1, 0, 0), 4);
        due("weight(2, 2) against its ODDS", x.weight(2, 2), 512);

        sentence(0, "(ROWS are of all ARCS.)");
        x = graph(3, 0, 2, 1, 2);
        x.hold(2, 1);
        due("of(2, 4)", x.of(2, 4), 4);
        due("odds(2, 3, 5)", x.odds(2, 3, 5), 4);
        due("told(2, 3)", x.told(2, 3), 5);
        due("told(2, 4)", x.told(2, 4), BAD);
        x.hold(0, 1);
        due("of(2, 4) with a HELD PARENT", x.of(2, 4), 4);
        x.hold(2, NONE);
        due("weight(7, 7)", x.weight(7, 7), 8 * 4 * 5);
        due("weight(7, 6)", x.weight(7, 6), 0);
    }

    private static void termsOfWeight() {
        sentence(0, "of its ODDS in its ROW if it is 1, else of 8 less these");
        IndependenceRows x = places(2);
        x.odds(0, 0, 1);
        x.odds(1, 0, 7);
        due("weight(3, 0)", x.weight(3, 0), 7 * 1);
        due("weight(3, 1)", x.weight(3, 1), 1 * 1);
        due("weight(3, 2)", x.weight(3, 2), 7 * 7);
        due("weight(3, 3)", x.weight(3, 3), 1 * 7);

        sentence(0, "of a HELD one of 8 if it has the value at which it is HELD, else of 0");
        x.hold(0, 0);
        due("weight(3, 2)", x.weight(3, 2), 8 * 7);
        due("weight(3, 3)", x.weight(3, 3), 0);
        x.hold(0, 1);
        due("weight(3, 3)", x.weight(3, 3), 8 * 7);
        due("weight(3, 2)", x.weight(3, 2), 0);
        x.hold(1, 0);
        due("weight(3, 1)", x.weight(3, 1), 8 * 8);
        due("weight(3, 3)", x.weight(3, 3), 0);

        sentence(0, "the sum over all VALUES of all PLACES that agree with these on the SET");
        x = graph(2, 0, 1);
        x.odds(0, 0, 2);
        x.odds(1, 0, 3);
        x.odds(1, 1, 8);
        due("weight(2, 2)", x.weight(2, 2), 6 * 3 + 2 * 8);
        due("weight(2, 0)", x.weight(2, 0), 6 * 5);
        due("weight(1, 1)", x.weight(1, 1), 2 * 8);

        sentence(0, "(of no PLACE: 8 times itself for each PLACE)");
        long all = 1;
        for (int many = 0; many <= 8; many++) {
            x = places(many);
            due("weight(0, 0) of " + many, x.weight(0, 0), all);
            if (many > 0) {
                x.odds(0, 0, 8);
                x.hold(many - 1, 0);
                due("weight(0, 0) of " + many + ", one HELD", x.weight(0, 0), all);
            }
            all *= 8;
        }
    }

    private static void termsOfWalks() {
        sentence(0, "BELOW a PLACE are its CHILDREN, theirs, and so on");
        IndependenceRows x = way(8);
        for (int p = 0; p < 8; p++) {
            due("of(" + p + ", 2)", x.of(p, 2), 255 & ~((2 << p) - 1));
        }

        sentence(0, "along or against them");
        x = graph(3, 1, 0, 1, 2);
        due("walk(0, 2, 0)", x.walk(0, 2, 0), 2);
        due("walk(2, 0, 0)", x.walk(2, 0, 0), 2);

        sentence(0, "At a PLACE that is not its first or last one ARCS MEET");
        x = graph(2, 0, 1);
        due("walk(0, 1, 0) without a PLACE between", x.walk(0, 1, 0), 1);
        due("walk(1, 0, 0) without a PLACE between", x.walk(1, 0, 0), 1);

        sentence(0, "if both by which it comes and goes come to this PLACE");
        due("0 > 1 > 2", way(3).separated(0, 2, 0), 0);
        due("0 < 1 > 2", graph(3, 1, 0, 1, 2).separated(0, 2, 0), 0);
        due("0 < 1 < 2", graph(3, 1, 0, 2, 1).separated(0, 2, 0), 0);
        due("0 > 1 < 2", graph(3, 0, 1, 2, 1).separated(0, 2, 0), 1);

        sentence(0, "is in the SET, or one BELOW it is");
        x = graph(8, 0, 2, 1, 2, 2, 3, 3, 4, 4, 5, 5, 6, 6, 7);
        for (int p = 2; p < 8; p++) {
            due("walk(0, 1, " + (1 << p) + ")", x.walk(0, 1, 1 << p), 2);
        }
        due("walk(0, 1, 0)", x.walk(0, 1, 0), NONE);
        x.hold(7, 0);
        due("walk(0, 1, 128) but by ARCS that do not COUNT", x.walk(0, 1, 128), NONE);
        due("walk(0, 1, 64)", x.walk(0, 1, 64), 2);

        sentence(0, "and else is not in the SET");
        due("0 > 1 > 2 by 1", way(3).separated(0, 2, 2), 1);
        due("0 < 1 > 2 by 1", graph(3, 1, 0, 1, 2).separated(0, 2, 2), 1);
        due("0 < 1 < 2 by 1", graph(3, 1, 0, 2, 1).separated(0, 2, 2), 1);
        due("0 > 1 < 2 by 1", graph(3, 0, 1, 2, 1).separated(0, 2, 2), 0);
        due("0 > 1 > 2 > 3 by BELOW 1", way(4).separated(0, 2, 8), 0);
        // At 1 ARCS MEET and it is in the SET, but 2 behind it is in the SET, too, and none MEET there.
        due("0 > 1 < 2 < 3 by 1, 2", graph(4, 0, 1, 2, 1, 3, 2).separated(0, 3, 6), 1);
    }

    private static void termsOfIndependence() {
        sentence(0, "for all VALUES of these (both, and the SET)");
        IndependenceRows x = graph(4, 0, 3, 1, 3, 2, 3);
        due("independent(0, 1, 12)", x.independent(0, 1, 12), 1);
        due("odds(3, 7, 5)", x.odds(3, 7, 5), 4);
        due("independent(0, 1, 12) but for the last VALUES", x.independent(0, 1, 12), 0);
        due("independent(0, 1, 4)", x.independent(0, 1, 4), 1);

        sentence(0, "A graph is ALIKE another one of as many PLACES");
        x = places(2);
        x.keep();
        due("alike()", x.alike(), 1);
        x.place();
        due("alike() to one of fewer", x.alike(), NONE);

        sentence(0, "just the same two PLACES are SEPARATED by the same SETS in both");
        x = graph(3, 0, 1);
        x.keep();
        x.cut(0, 1);
        due("alike() when more are SEPARATED", x.alike(), 0);
        x.keep();
        x.arc(0, 1);
        due("alike() when fewer are SEPARATED", x.alike(), 0);
        x.cut(0, 1);
        x.arc(1, 2);
        x.keep();
        x.cut(1, 2);
        x.arc(0, 2);
        due("alike() when as many others are SEPARATED", x.alike(), 0);

        sentence(0, "(all ARCS COUNT there, no PLACE is HELD)");
        x = graph(3, 0, 1, 2, 1);
        x.hold(1, 1);
        x.keep();
        x.hold(1, NONE);
        due("alike() to one that was HELD", x.alike(), 1);
        due("family()", x.family(), 1);
        x.hold(1, 0);
        due("alike()", x.alike(), 1);
        due("family() of a HELD one", x.family(), 1);
        due("settled(0, 1) to a HELD one", x.settled(0, 1), 1);
        due("count(2) of a HELD one", x.count(2), 2);
    }

    private static void termsOfRefusals() {
        sentence(0, "BAD (a number is none, or out of its bounds");
        for (int many = 0; many < 8; many++) {
            IndependenceRows x = places(many);
            due("told(" + many + ", 0)", x.told(many, 0), BAD);
            due("weight(" + (1 << many) + ", 0)", x.weight(1 << many, 0), BAD);
            due("place()", x.place(), many);
            due("told(" + many + ", 0)", x.told(many, 0), 4);
            due("weight(" + (1 << many) + ", 0)", x.weight(1 << many, 0), 4L << (3 * many));
        }

        sentence(0, "two PLACES are the same, or in a SET in which they must not be) first");
        IndependenceRows full = fiveAllJoined(6);
        due("arc(5, 5) when FULL", full.arc(5, 5), BAD);
        due("arc(5, 6) when FULL", full.arc(5, 6), BAD);
        due("cut(5, 5) where there is no ARC", full.cut(5, 5), BAD);
        due("cut(5, 6) where there is no ARC", full.cut(5, 6), BAD);
        due("settled(5, 5) where there is no ARC", full.settled(5, 5), BAD);
        due("walk(5, 0, 32) where there is no WALK", full.walk(5, 0, 32), BAD);
        due("differ(5, 0, 1) where they are INDEPENDENT", full.differ(5, 0, 1), BAD);
        due("enough(0, 5, 33) where one is BELOW", full.enough(0, 5, 33), BAD);
        due("enough(0, 5, 34) where one is BELOW", full.enough(0, 5, 34), BAD);
        due("least(0, 0) where there is no SET", full.least(0, 0), BAD);

        sentence(0, "then what a call names, in the order named");
        due("arc(0, 4): JOINED before FULL", full.arc(0, 4), JOINED);
        due("arc(4, 0): JOINED before RING", full.arc(4, 0), JOINED);
        due("cut(0, 4)", full.cut(0, 4), 9);
        due("arc(3, 5)", full.arc(3, 5), 10);
        due("arc(4, 0): RING before FULL", full.arc(4, 0), RING);
        due("arc(0, 4): FULL", full.arc(0, 4), FULL);
    }

    // ---- the promises

    private static void newObject() {
        sentence(1, "No PLACES");
        IndependenceRows x = new IndependenceRows();
        for (int what = 0; what <= 3; what++) {
            due("count(" + what + ")", x.count(what), 0);
        }
        due("of(0, 0)", x.of(0, 0), BAD);
        due("told(0, 0)", x.told(0, 0), BAD);
        due("odds(0, 0, 4)", x.odds(0, 0, 4), BAD);
        due("hold(0, 1)", x.hold(0, 1), BAD);
        due("blanket(0)", x.blanket(0), BAD);
        due("arc(0, 1)", x.arc(0, 1), BAD);
        due("cut(0, 1)", x.cut(0, 1), BAD);
        due("settled(0, 1)", x.settled(0, 1), BAD);
        due("least(0, 1)", x.least(0, 1), BAD);
        due("separated(0, 1, 0)", x.separated(0, 1, 0), BAD);
        due("walk(0, 1, 0)", x.walk(0, 1, 0), BAD);
        due("independent(0, 1, 0)", x.independent(0, 1, 0), BAD);
        due("differ(0, 1, 0)", x.differ(0, 1, 0), BAD);
        due("enough(0, 1, 0)", x.enough(0, 1, 0), BAD);
        due("weight(0, 0)", x.weight(0, 0), 1);
        due("weight(1, 0)", x.weight(1, 0), BAD);
        due("weight(0, 1)", x.weight(0, 1), BAD);
        due("family()", x.family(), 1);
        due("clear()", x.clear(), 0);

        sentence(1, "nothing KEPT");
        x = new IndependenceRows();
        due("alike() of no PLACES", x.alike(), NONE);
        x.place();
        due("alike() of one PLACE", x.alike(), NONE);
    }

    private static void clear() {
        sentence(2, "how many PLACES there were");
        for (int many = 0; many <= 8; many++) {
            IndependenceRows x = places(many);
            due("clear()", x.clear(), many);
            due("clear() again", x.clear(), 0);
        }
        IndependenceRows over = places(8);
        over.place();
        due("clear() after FULL", over.clear(), 8);

        sentence(2, "All as at first");
        IndependenceRows x = fiveAllJoined(8);
        for (int p = 0; p < 8; p++) {
            x.odds(p, 0, 8);
            x.hold(p, p & 1);
        }
        x.odds(4, 15, 0);
        x.keep();
        due("clear()", x.clear(), 8);
        due("alike() of no PLACES", x.alike(), NONE);
        due("family()", x.family(), 1);
        due("weight(0, 0)", x.weight(0, 0), 1);
        for (int what = 0; what <= 3; what++) {
            due("count(" + what + ")", x.count(what), 0);
        }
        for (int p = 0; p < 8; p++) {
            due("of(" + p + ", 0)", x.of(p, 0), BAD);
            due("place()", x.place(), p);
        }
        due("place()", x.place(), FULL);
        due("alike() of as many", x.alike(), NONE);
        sameAs("cleared", x, places(8));
        due("arc(4, 0)", x.arc(4, 0), 1);
        for (int p = 0; p < 3; p++) {
            due("arc(" + p + ", 4)", x.arc(p + 1, 4), p + 2);
        }
        due("told(4, 7)", x.told(4, 7), 4);
    }

    private static void place() {
        sentence(3, "A PLACE more: its number");
        IndependenceRows x = new IndependenceRows();
        for (int p = 0; p < 8; p++) {
            due("place()", x.place(), p);
            due("count(0)", x.count(0), p + 1);
            due("of(" + p + ", 0)", x.of(p, 0), 0);
            due("of(" + p + ", 1)", x.of(p, 1), 0);
            due("of(" + p + ", 3)", x.of(p, 3), NONE);
            due("of(" + p + ", 4)", x.of(p, 4), 1);
            due("told(" + p + ", 0)", x.told(p, 0), 4);
        }

        sentence(3, "FULL");
        due("place() of a ninth", x.place(), FULL);
        due("place() once more", x.place(), FULL);
        due("count(0)", x.count(0), 8);
        due("clear()", x.clear(), 8);
        due("place() when it is empty again", x.place(), 0);
    }

    private static void arc() {
        sentence(4, "An ARC more: how many there are");
        IndependenceRows x = fiveAllJoined(5);
        due("count(1)", x.count(1), 10);
        x = graph(2, 1, 0);
        due("count(1)", x.count(1), 1);
        due("cut(1, 0)", x.cut(1, 0), 0);
        due("arc(0, 1)", x.arc(0, 1), 1);
        x = graph(8, 7, 0);
        due("arc(0, 6)", x.arc(0, 6), 2);
    }

    private static void arcRefused() {
        sentence(4, "BAD");
        IndependenceRows x = places(3);
        int[] none = {-1, 3, 7, 8, 32, MOST, LEAST};
        for (int number : none) {
            due("arc(" + number + ", 0)", x.arc(number, 0), BAD);
            due("arc(0, " + number + ")", x.arc(0, number), BAD);
        }
        for (int p = 0; p < 3; p++) {
            due("arc(" + p + ", " + p + ")", x.arc(p, p), BAD);
        }
        due("count(1)", x.count(1), 0);

        sentence(4, "JOINED: there is one between them, either way");
        x = graph(8, 0, 7, 6, 1);
        due("arc(0, 7)", x.arc(0, 7), JOINED);
        due("arc(7, 0)", x.arc(7, 0), JOINED);
        due("arc(6, 1)", x.arc(6, 1), JOINED);
        due("arc(1, 6)", x.arc(1, 6), JOINED);
        x.hold(7, 0);
        due("arc(0, 7) that does not COUNT", x.arc(0, 7), JOINED);
        x.cut(0, 7);
        due("arc(7, 0) after the cut", x.arc(7, 0), 2);

        sentence(4, "RING: a way along ARCS would come back to from");
        x = way(8);
        due("arc(7, 0)", x.arc(7, 0), RING);
        due("arc(7, 5)", x.arc(7, 5), RING);
        due("arc(2, 0)", x.arc(2, 0), RING);
        x.hold(4, 1);
        due("arc(7, 0) by an ARC that does not COUNT", x.arc(7, 0), RING);
        due("arc(5, 7)", x.arc(5, 7), 8);
        x.cut(3, 4);
        due("arc(7, 0) after the cut", x.arc(7, 0), 8);
        x = graph(3, 0, 1, 2, 1);
        due("arc(0, 2) where ARCS MEET", x.arc(0, 2), 3);

        sentence(4, "FULL: 10 are there");
        x = twoToFive();
        due("arc(0, 1)", x.arc(0, 1), FULL);
        due("arc(2, 3)", x.arc(2, 3), FULL);
        due("cut(0, 2)", x.cut(0, 2), 9);
        due("arc(0, 1)", x.arc(0, 1), 10);
        due("arc(0, 2)", x.arc(0, 2), FULL);
        x.hold(1, 0);
        due("arc(0, 2) with ARCS that do not COUNT", x.arc(0, 2), FULL);
    }

    private static void cut() {
        sentence(5, "An ARC goes: how many are left");
        IndependenceRows x = fiveAllJoined(5);
        int left = 10;
        for (int from = 0; from < 5; from++) {
            for (int to = from + 1; to < 5; to++) {
                left--;
                due("cut(" + from + ", " + to + ")", x.cut(from, to), left);
                due("of(" + from + ", 1)", x.of(from, 1), 31 & ~((2 << to) - 1));
            }
        }
        due("count(1)", x.count(1), 0);
        due("cut(0, 1) when none is left", x.cut(0, 1), NONE);

        sentence(5, "NONE: there is no such ARC");
        x = graph(3, 0, 1);
        due("cut(1, 0) the other way", x.cut(1, 0), NONE);
        due("cut(0, 2)", x.cut(0, 2), NONE);
        due("cut(2, 1)", x.cut(2, 1), NONE);
        due("count(1)", x.count(1), 1);
        x.hold(1, 0);
        due("cut(0, 1) of one that does not COUNT", x.cut(0, 1), 0);
        due("cut(0, 1) again", x.cut(0, 1), NONE);
    }

    private static void odds() {
        sentence(6, "ODDS of a PLACE in a ROW: what they were");
        IndependenceRows x = sevenToOne(7);
        for (int eighths = 0; eighths <= 8; eighths++) {
            due("odds(7, 127, " + eighths + ")", x.odds(7, 127, eighths), eighths == 0 ? 4 : eighths - 1);
            due("told(7, 127)", x.told(7, 127), eighths);
        }
        due("odds(7, 0, 1)", x.odds(7, 0, 1), 4);
        due("told(7, 127)", x.told(7, 127), 8);
        due("told(7, 1)", x.told(7, 1), 4);
        due("told(0, 0)", x.told(0, 0), 4);

        sentence(6, "BAD");
        due("odds(7, 128, 4)", x.odds(7, 128, 4), BAD);
        due("odds(6, 1, 4)", x.odds(6, 1, 4), BAD);
        due("odds(6, 0, 9)", x.odds(6, 0, 9), BAD);
        due("odds(6, 0, -1)", x.odds(6, 0, -1), BAD);
        due("odds(8, 0, 4)", x.odds(8, 0, 4), BAD);
        due("odds(-1, 0, 4)", x.odds(-1, 0, 4), BAD);
        due("odds(7, -1, 4)", x.odds(7, -1, 4), BAD);
        int[] none = {MOST, LEAST, 256};
        for (int number : none) {
            due("odds(" + number + ", 0, 4)", x.odds(number, 0, 4), BAD);
            due("odds(7, " + number + ", 4)", x.odds(7, number, 4), BAD);
            due("odds(7, 0, " + number + ")", x.odds(7, 0, number), BAD);
        }
        due("told(6, 0)", x.told(6, 0), 4);
        due("told(7, 0)", x.told(7, 0), 1);
        x.cut(0, 7);
        due("odds(7, 64, 4) of a ROW that is gone", x.odds(7, 64, 4), BAD);
        due("odds(7, 63, 4)", x.odds(7, 63, 4), 4);
    }

    private static void hold() {
        sentence(7, "A PLACE is HELD at a value (0, 1), or not any more (NONE): at what it was (NONE)");
        IndependenceRows x = places(8);
        for (int p = 0; p < 8; p += 7) {
            due("hold(" + p + ", NONE)", x.hold(p, NONE), NONE);
            due("hold(" + p + ", 0)", x.hold(p, 0), NONE);
            due("hold(" + p + ", 0)", x.hold(p, 0), 0);
            due("hold(" + p + ", 1)", x.hold(p, 1), 0);
            due("hold(" + p + ", 1)", x.hold(p, 1), 1);
            due("hold(" + p + ", 0)", x.hold(p, 0), 1);
            due("hold(" + p + ", NONE)", x.hold(p, NONE), 0);
            due("hold(" + p + ", 1)", x.hold(p, 1), NONE);
            due("hold(" + p + ", NONE)", x.hold(p, NONE), 1);
            due("hold(" + p + ", NONE)", x.hold(p, NONE), NONE);
        }
        due("count(3)", x.count(3), 0);
        for (int p = 0; p < 8; p++) {
            due("hold(" + p + ", " + (p & 1) + ") of all", x.hold(p, p & 1), NONE);
        }
        for (int p = 7; p >= 0; p--) {
            due("hold(" + p + ", NONE) of all", x.hold(p, NONE), p & 1);
        }

        sentence(7, "BAD");
        x.hold(2, 1);
        int[] noValue = {2, -2, 8, MOST, LEAST};
        for (int number : noValue) {
            due("hold(2, " + number + ")", x.hold(2, number), BAD);
        }
        int[] noPlace = {-1, 8, 9, 32, MOST, LEAST};
        for (int number : noPlace) {
            due("hold(" + number + ", 1)", x.hold(number, 1), BAD);
            due("hold(" + number + ", NONE)", x.hold(number, NONE), BAD);
        }
        due("of(2, 3)", x.of(2, 3), 1);
        due("count(3)", x.count(3), 1);
    }

    private static void told() {
        sentence(8, "ODDS of a PLACE in a ROW");
        IndependenceRows x = sevenToOne(0);
        x.odds(0, 0, 0);
        x.odds(0, 127, 8);
        due("told(0, 0)", x.told(0, 0), 0);
        due("told(0, 127)", x.told(0, 127), 8);
        due("told(0, 64)", x.told(0, 64), 4);
        due("told(7, 0)", x.told(7, 0), 4);

        sentence(8, "BAD");
        due("told(0, 128)", x.told(0, 128), BAD);
        due("told(0, -1)", x.told(0, -1), BAD);
        due("told(7, 1)", x.told(7, 1), BAD);
        due("told(8, 0)", x.told(8, 0), BAD);
        due("told(-1, 0)", x.told(-1, 0), BAD);
        int[] none = {MOST, LEAST, 256};
        for (int number : none) {
            due("told(" + number + ", 0)", x.told(number, 0), BAD);
            due("told(0, " + number + ")", x.told(0, number), BAD);
        }
    }

    private static void of() {
        sentence(9, "0 the SET of its PARENTS");
        IndependenceRows to = sevenToOne(7);
        due("of(7, 0)", to.of(7, 0), 127);
        due("of(0, 0)", to.of(0, 0), 0);
        to.hold(7, 0);
        due("of(7, 0) by all ARCS", to.of(7, 0), 127);

        sentence(9, "1 of its CHILDREN (by all ARCS)");
        IndependenceRows from = oneToSeven(0);
        due("of(0, 1)", from.of(0, 1), 254);
        due("of(7, 1)", from.of(7, 1), 0);
        from.hold(7, 1);
        due("of(0, 1) with one HELD", from.of(0, 1), 254);

        sentence(9, "2 of those BELOW it");
        due("of(0, 2) with one HELD", from.of(0, 2), 126);
        due("of(7, 2)", from.of(7, 2), 0);
        due("of(0, 2) of the only one", places(1).of(0, 2), 0);
        due("of(0, 2) of a way", way(8).of(0, 2), 254);

        sentence(9, "3 at what it is HELD (NONE)");
        due("of(0, 3)", from.of(0, 3), NONE);
        due("of(7, 3)", from.of(7, 3), 1);
        from.hold(7, 0);
        due("of(7, 3)", from.of(7, 3), 0);
        from.hold(7, NONE);
        due("of(7, 3)", from.of(7, 3), NONE);

        sentence(9, "4 how many ROWS it has");
        due("of(7, 4)", to.of(7, 4), 128);
        due("of(0, 4)", to.of(0, 4), 1);
        for (int p = 0; p < 7; p++) {
            to.cut(p, 7);
            due("of(7, 4)", to.of(7, 4), 64 >> p);
        }
    }

    private static void ofRefused() {
        sentence(9, "BAD");
        IndependenceRows x = places(8);
        int[] noWhat = {-1, 5, 8, MOST, LEAST};
        for (int number : noWhat) {
            due("of(7, " + number + ")", x.of(7, number), BAD);
        }
        int[] noPlace = {-1, 8, 32, MOST, LEAST};
        for (int number : noPlace) {
            for (int what = 0; what <= 4; what++) {
                due("of(" + number + ", " + what + ")", x.of(number, what), BAD);
            }
        }
    }

    private static void separated() {
        sentence(10, "Whether two PLACES are SEPARATED by a SET (1 or 0)");
        due("of no ARCS, by all others", places(8).separated(0, 7, 126), 1);
        due("of no ARCS, by none", places(2).separated(1, 0, 0), 1);
        IndependenceRows x = way(8);
        due("separated(0, 7, 0)", x.separated(0, 7, 0), 0);
        for (int p = 1; p < 7; p++) {
            due("separated(0, 7, " + (1 << p) + ")", x.separated(0, 7, 1 << p), 1);
        }
        due("separated(0, 7, 126)", x.separated(0, 7, 126), 1);
        due("separated(0, 1, 252) of two that are joined", x.separated(0, 1, 252), 0);
        x = twoToFive();
        due("separated(0, 1, 0)", x.separated(0, 1, 0), 1);
        due("separated(0, 1, 64)", x.separated(0, 1, 64), 0);
        due("separated(2, 6, 3)", x.separated(2, 6, 3), 1);
        due("separated(2, 6, 1)", x.separated(2, 6, 1), 0);
        due("separated(2, 6, 2)", x.separated(2, 6, 2), 0);
    }

    private static void walk() {
        sentence(11, "By how many ARCS the shortest WALK goes");
        IndependenceRows x = way(8);
        for (int p = 1; p < 8; p++) {
            due("walk(0, " + p + ", 0)", x.walk(0, p, 0), p);
            due("walk(" + p + ", 0, 0)", x.walk(p, 0, 0), p);
        }
        x.arc(2, 5);
        due("walk(0, 7, 0) by a shorter one", x.walk(0, 7, 0), 5);
        x.arc(0, 7);
        due("walk(0, 7, 0) by the shortest", x.walk(0, 7, 0), 1);

        sentence(11, "that is OPEN by a SET");
        due("walk(0, 6, 4)", x.walk(0, 6, 4), NONE);
        due("walk(0, 6, 128)", x.walk(0, 6, 128), 2);
        due("walk(0, 4, 128)", x.walk(0, 4, 128), 4);
        due("walk(0, 4, 132)", x.walk(0, 4, 132), 4);
        // 0 > 1 < 2 > 3 < 4 > 5 < 6 > 7: at 1, 3 and 5 ARCS MEET.
        IndependenceRows turns = graph(8, 0, 1, 2, 1, 2, 3, 4, 3, 4, 5, 6, 5, 6, 7);
        due("walk(0, 7, 42)", turns.walk(0, 7, 42), 7);
        due("walk(0, 7, 34)", turns.walk(0, 7, 34), NONE);
        due("walk(0, 7, 46)", turns.walk(0, 7, 46), NONE);

        sentence(11, "NONE");
        due("walk(0, 1, 0) of no ARCS", places(2).walk(0, 1, 0), NONE);
        due("walk(0, 2, 2)", way(3).walk(0, 2, 2), NONE);
        due("walk(0, 2, 0) where ARCS MEET", graph(3, 0, 1, 2, 1).walk(0, 2, 0), NONE);
        IndependenceRows held = graph(2, 0, 1);
        held.hold(1, 0);
        due("walk(0, 1, 0) to a HELD one", held.walk(0, 1, 0), NONE);
        due("walk(1, 0, 0) from a HELD one", held.walk(1, 0, 0), NONE);
    }

    private static void weight() {
        sentence(12, "WEIGHT of VALUES of a SET (bits of others do not count)");
        IndependenceRows x = places(8);
        for (int p = 0; p < 8; p++) {
            x.odds(p, 0, 8);
        }
        due("weight(255, 255)", x.weight(255, 255), 1L << 24);
        due("weight(255, 254)", x.weight(255, 254), 0);
        due("weight(254, 254)", x.weight(254, 254), 1L << 24);
        due("weight(1, 254)", x.weight(1, 254), 0);
        due("weight(0, 255)", x.weight(0, 255), 1L << 24);
        due("weight(0, 0)", x.weight(0, 0), 1L << 24);
        due("weight(128, 128)", x.weight(128, 128), 1L << 24);
        due("weight(128, 127)", x.weight(128, 127), 0);

        sentence(12, "BAD: also bits of no PLACE, in either");
        int[] none = {256, 257, 512, 1 << 30, MOST, LEAST, LEAST + 1, -1, -256};
        for (int number : none) {
            due("weight(" + number + ", 0)", x.weight(number, 0), BAD);
            due("weight(0, " + number + ")", x.weight(0, number), BAD);
        }
        x = places(2);
        due("weight(4, 0)", x.weight(4, 0), BAD);
        due("weight(3, 4)", x.weight(3, 4), BAD);
        due("weight(0, 7)", x.weight(0, 7), BAD);
        due("weight(3, 3)", x.weight(3, 3), 16);
    }

    private static void independent() {
        sentence(13, "Whether two PLACES are INDEPENDENT by a SET (1 or 0)");
        IndependenceRows x = graph(8, 0, 7);
        due("independent(0, 7, 126) with even ODDS", x.independent(0, 7, 126), 1);
        due("odds(7, 1, 5)", x.odds(7, 1, 5), 4);
        due("independent(0, 7, 0) by great WEIGHTS", x.independent(0, 7, 0), 0);
        due("independent(7, 0, 126) by small WEIGHTS", x.independent(7, 0, 126), 0);
        due("independent(1, 7, 1)", x.independent(1, 7, 1), 1);

        sentence(13, "Whether two PLACES are INDEPENDENT by a SET (1 or 0)");
        x = graph(3, 0, 2, 1, 2);
        x.odds(2, 0, 0);
        x.odds(2, 1, 0);
        x.odds(2, 2, 0);
        x.odds(2, 3, 0);
        due("independent(0, 1, 4) when 2 is never 1", x.independent(0, 1, 4), 1);
        x.odds(2, 3, 8);
        due("independent(0, 1, 4) when 2 is 1 with both", x.independent(0, 1, 4), 0);
        x.hold(0, 0);
        due("independent(0, 1, 4) when 0 is HELD", x.independent(0, 1, 4), 1);
    }

    private static void differ() {
        sentence(14, "The least VALUES (0 for all but both and the SET) by which two PLACES are not INDEPENDENT");
        IndependenceRows x = sevenToOne(3);
        x.odds(3, 127, 0);
        due("differ(0, 7, 126) only at the last ROW", x.differ(0, 7, 126), 118);
        due("differ(0, 7, 8)", x.differ(0, 7, 8), 0);
        due("differ(0, 3, 0)", x.differ(0, 3, 0), 0);
        due("differ(0, 3, 246)", x.differ(0, 3, 246), 246);
        x.odds(3, 0, 0);
        due("differ(0, 7, 126) at the first ROW, too", x.differ(0, 7, 126), 0);
        x = graph(3, 0, 2, 1, 2);
        x.odds(2, 3, 8);
        x.odds(2, 0, 8);
        x.odds(2, 1, 8);
        x.odds(2, 2, 8);
        due("differ(0, 1, 4) when 2 is always 1", x.differ(0, 1, 4), NONE);
        x.odds(2, 3, 7);
        due("differ(0, 1, 4) when 2 is 0 with both alone", x.differ(0, 1, 4), 4);

        sentence(14, "NONE: they are");
        due("differ(0, 1, 0)", x.differ(0, 1, 0), NONE);
        due("differ(0, 7, 126) of no ARCS", places(8).differ(0, 7, 126), NONE);
        x.hold(2, 1);
        due("differ(0, 2, 2) when 2 is HELD", x.differ(0, 2, 2), NONE);
    }

    private static void blanket() {
        sentence(15, "The SET of fewest PLACES by which a PLACE is SEPARATED from each other one that is not in it");
        due("blanket(0) of the only one", places(1).blanket(0), 0);
        due("blanket(7) of no ARCS", places(8).blanket(7), 0);
        for (int p = 0; p < 8; p++) {
            due("blanket(" + p + ") of eight", sevenToOne(7).blanket(p), 255 & ~(1 << p));
            due("blanket(" + p + ") of a star", oneToSeven(0).blanket(p), p == 0 ? 254 : 1);
        }
        IndependenceRows x = way(8);
        due("blanket(0) of a way", x.blanket(0), 2);
        due("blanket(7) of a way", x.blanket(7), 64);
        due("blanket(3) of a way", x.blanket(3), 20);
        x.hold(3, 1);
        due("blanket(3) when it is HELD", x.blanket(3), 16);
        due("blanket(2) when its CHILD is HELD", x.blanket(2), 2);
        due("blanket(4) when its PARENT is HELD", x.blanket(4), 40);

        sentence(15, "BAD");
        int[] none = {-1, 8, 32, MOST, LEAST};
        for (int number : none) {
            due("blanket(" + number + ")", x.blanket(number), BAD);
        }
        due("blanket(1)", places(1).blanket(1), BAD);
    }

    private static void least() {
        sentence(16, "The SET of fewest PLACES by which two are SEPARATED");
        due("least(0, 7) of no ARCS", places(8).least(0, 7), 0);
        due("least(0, 1) of two", places(2).least(0, 1), 0);
        due("least(0, 6) of five ways",
                graph(7, 0, 1, 0, 2, 0, 3, 0, 4, 0, 5, 1, 6, 2, 6, 3, 6, 4, 6, 5, 6).least(0, 6), 62);
        due("least(0, 6): one of a great number before two of lesser ones",
                graph(7, 0, 1, 0, 2, 1, 5, 2, 5, 5, 6).least(0, 6), 32);
        due("least(0, 1) where ARCS MEET", twoToFive().least(0, 1), 0);
        due("least(1, 2) with the first PLACE between", graph(3, 1, 0, 0, 2).least(1, 2), 1);
        due("least(1, 2) with the last PLACE between", graph(8, 1, 7, 7, 2).least(1, 2), 128);

        sentence(16, "of as many the least number");
        IndependenceRows x = way(8);
        due("least(0, 7)", x.least(0, 7), 2);
        due("least(7, 0)", x.least(7, 0), 2);
        due("least(3, 7)", x.least(3, 7), 16);
        due("least(0, 6) against the ARCS",
                graph(7, 6, 5, 5, 4, 4, 3, 3, 2, 2, 1, 1, 0).least(0, 6), 2);
        due("least(0, 5): the lesser two of two twos",
                graph(6, 0, 1, 0, 2, 1, 3, 2, 4, 3, 5, 4, 5).least(0, 5), 6);
        due("least(1, 0): the lesser two of two twos",
                graph(6, 0, 2, 0, 4, 2, 3, 4, 5, 3, 1, 5, 1).least(1, 0), 20);

        sentence(16, "NONE: by none");
        due("least(0, 1)", x.least(0, 1), NONE);
        due("least(7, 6)", x.least(7, 6), NONE);
        x.hold(1, 0);
        due("least(0, 1) by an ARC that does not COUNT", x.least(0, 1), 0);
        due("least(1, 2)", x.least(1, 2), NONE);
    }

    private static void enough() {
        sentence(17, "none of it is BELOW x");
        IndependenceRows x = graph(8, 0, 1, 1, 2, 2, 3, 3, 4, 0, 5, 5, 6);
        due("enough(1, 4, 0)", x.enough(1, 4, 0), 1);
        due("enough(1, 4, 4)", x.enough(1, 4, 4), 0);
        due("enough(1, 2, 16) far BELOW", x.enough(1, 2, 16), 0);
        due("enough(1, 7, 16) though they are SEPARATED", x.enough(1, 7, 16), 0);
        due("enough(1, 4, 97) of none BELOW", x.enough(1, 4, 97), 1);
        due("enough(0, 7, 64) of the first PLACE", x.enough(0, 7, 64), 0);
        due("enough(0, 6, 128) of none BELOW the first PLACE", x.enough(0, 6, 128), 1);
        x.hold(3, 1);
        due("enough(1, 2, 16) by ARCS that COUNT", x.enough(1, 2, 16), 1);
        due("enough(1, 2, 8) by ARCS that COUNT", x.enough(1, 2, 8), 1);

        sentence(17, "x and y are SEPARATED by it, if ARCS out of x did not COUNT, either");
        due("enough(0, 1, 0) of two", graph(2, 0, 1).enough(0, 1, 0), 1);
        due("enough(1, 0, 0) of two", graph(2, 0, 1).enough(1, 0, 0), 0);
        due("enough(0, 1, 0) of no ARCS", places(2).enough(0, 1, 0), 1);
        due("enough(0, 7, 126) of no ARCS", places(8).enough(0, 7, 126), 1);
        x = graph(4, 0, 1, 0, 2, 1, 2, 3, 0);
        due("enough(1, 2, 0)", x.enough(1, 2, 0), 0);
        due("enough(1, 2, 1)", x.enough(1, 2, 1), 1);
        due("enough(1, 2, 8)", x.enough(1, 2, 8), 0);
        due("enough(1, 2, 9)", x.enough(1, 2, 9), 1);
        x.hold(1, 0);
        due("enough(1, 2, 0) when x is HELD", x.enough(1, 2, 0), 1);
        x.hold(1, NONE);
        x.hold(2, 0);
        due("enough(1, 2, 0) when y is HELD", x.enough(1, 2, 0), 1);
    }

    private static void keep() {
        sentence(18, "The graph is KEPT: how many ARCS it has");
        IndependenceRows x = new IndependenceRows();
        due("keep() of no PLACES", x.keep(), 0);
        due("alike()", x.alike(), 1);
        due("keep() of no ARCS", places(8).keep(), 0);
        due("keep() of ten", fiveAllJoined(5).keep(), 10);
        x = graph(3, 0, 1, 2, 1);
        x.hold(1, 0);
        due("keep() with ARCS that do not COUNT", x.keep(), 2);
        due("keep() again", x.keep(), 2);
        due("cut(0, 1)", x.cut(0, 1), 1);
        due("alike() after what is KEPT has changed", x.alike(), 0);
        due("arc(0, 1)", x.arc(0, 1), 2);
        due("alike() when it is as it was", x.alike(), 1);
        due("count(1): what is KEPT comes not back", x.count(1), 2);
    }

    private static void alike() {
        sentence(19, "Whether the graph that was KEPT last is ALIKE the one there is now (1 or 0)");
        IndependenceRows x = graph(3, 0, 1, 2, 1);
        x.keep();
        x.cut(0, 1);
        x.arc(1, 0);
        due("alike()", x.alike(), 0);
        x.keep();
        due("alike() to the last", x.alike(), 1);
        x.cut(1, 0);
        x.arc(0, 1);
        due("alike() to the first, not the last", x.alike(), 0);
        x = graph(3, 1, 0, 2, 0);
        x.keep();
        x.cut(1, 0);
        x.arc(0, 1);
        due("alike() when none MEET any more at the first PLACE", x.alike(), 0);
        x.keep();
        x.cut(0, 1);
        x.arc(1, 0);
        due("alike() when ARCS MEET at the first PLACE", x.alike(), 0);
        x = fiveAllJoined(8);
        x.keep();
        x.cut(3, 4);
        x.arc(4, 3);
        due("alike() with one of ten turned", x.alike(), 1);
        x.cut(4, 3);
        due("alike() with one of ten less", x.alike(), 0);

        sentence(19, "NONE: none was KEPT");
        x = new IndependenceRows();
        due("alike() of no PLACES", x.alike(), NONE);
        x.keep();
        due("alike() of no PLACES when they are KEPT", x.alike(), 1);
        x.clear();
        due("alike() when it is cleared", x.alike(), NONE);
        due("alike() of eight", places(8).alike(), NONE);

        sentence(19, "or it has not as many PLACES");
        x = places(7);
        x.keep();
        due("alike() of as many", x.alike(), 1);
        due("place()", x.place(), 7);
        due("alike() of one more", x.alike(), NONE);
        due("place()", x.place(), FULL);
        x.keep();
        due("alike() of eight", x.alike(), 1);
    }

    private static void settled() {
        sentence(20, "Whether an ARC goes this way in all graphs that are ALIKE the one there is (1 or 0)");
        due("settled(0, 1) of one ARC", graph(2, 0, 1).settled(0, 1), 0);
        due("settled(1, 0) of one ARC", graph(2, 1, 0).settled(1, 0), 0);
        IndependenceRows x = twoToFive();
        for (int p = 2; p < 7; p++) {
            due("settled(0, " + p + ")", x.settled(0, p), 1);
            due("settled(1, " + p + ")", x.settled(1, p), 1);
        }
        x = graph(8, 0, 2, 1, 2, 2, 3, 3, 4, 4, 5, 5, 6, 6, 7);
        due("settled(6, 7) far behind where ARCS MEET", x.settled(6, 7), 1);
        x.cut(0, 2);
        due("settled(6, 7) where none MEET", x.settled(6, 7), 0);
        x.arc(0, 2);
        due("settled(6, 7) where they MEET again", x.settled(6, 7), 1);
        x = oneToSeven(0);
        for (int p = 1; p < 8; p++) {
            due("settled(0, " + p + ") of a star", x.settled(0, p), 0);
        }
        x = graph(4, 0, 1, 0, 3, 2, 3);
        due("settled(0, 1) beside one that is", x.settled(0, 1), 0);
        due("settled(0, 3) beside one that is not", x.settled(0, 3), 1);

        sentence(20, "NONE: there is no such ARC");
        x = graph(8, 0, 2, 1, 2);
        x.cut(0, 2);
        due("settled(0, 2) that was cut", x.settled(0, 2), NONE);
        due("settled(2, 1) the other way", x.settled(2, 1), NONE);
        due("settled(0, 7)", x.settled(0, 7), NONE);
        due("settled(0, 1) of no ARCS", places(2).settled(0, 1), NONE);
    }

    private static void family() {
        sentence(21, "How many graphs are ALIKE the one there is (itself, too)");
        due("of no PLACES", new IndependenceRows().family(), 1);
        due("of one PLACE", places(1).family(), 1);
        due("of no ARCS", places(8).family(), 1);
        due("of one ARC", graph(2, 0, 1).family(), 2);
        due("of ARCS that all MEET", twoToFive().family(), 1);
        due("of seven to one", sevenToOne(0).family(), 1);
        due("of one to seven", oneToSeven(7).family(), 8);
        due("of a way", way(8).family(), 8);
        due("of five all joined", fiveAllJoined(8).family(), 120);
        due("of four all joined, and three with one more",
                graph(8, 0, 1, 0, 2, 0, 3, 1, 2, 1, 3, 2, 3, 4, 5, 4, 6, 5, 6, 6, 7).family(), 24 * 8);
        due("of four pairs", graph(8, 0, 1, 3, 2, 4, 5, 7, 6).family(), 16);
    }

    private static void count() {
        sentence(22, "0 how many PLACES");
        IndependenceRows x = new IndependenceRows();
        due("count(0)", x.count(0), 0);
        due("count(0)", places(8).count(0), 8);

        sentence(22, "1 ARCS");
        due("count(1)", x.count(1), 0);
        due("count(1)", fiveAllJoined(5).count(1), 10);

        sentence(22, "2 how many ARCS are settled");
        due("count(2) of no PLACES", x.count(2), 0);
        due("count(2) of no ARCS", places(8).count(2), 0);
        due("count(2) of none of ten", fiveAllJoined(5).count(2), 0);
        due("count(2) of all ten", twoToFive().count(2), 10);
        due("count(2) of some", graph(5, 0, 1, 2, 1, 3, 4).count(2), 2);
        due("count(2) of none of seven", oneToSeven(0).count(2), 0);
        x = way(3);
        due("count(2) before one is turned", x.count(2), 0);
        x.cut(1, 2);
        x.arc(2, 1);
        due("count(2) when one is turned", x.count(2), 2);
        x.cut(0, 1);
        due("count(2) when one is left", x.count(2), 0);

        sentence(22, "3 how many PLACES are HELD");
        due("count(3) of no PLACES", new IndependenceRows().count(3), 0);
        x = places(8);
        for (int p = 0; p < 8; p++) {
            due("count(3)", x.count(3), p);
            x.hold(p, p & 1);
        }
        due("count(3) of all", x.count(3), 8);
        x.hold(7, 0);
        due("count(3) when one is HELD otherwise", x.count(3), 8);
        x.hold(0, NONE);
        x.hold(0, NONE);
        due("count(3) when one is let go", x.count(3), 7);

        sentence(22, "BAD");
        int[] none = {-1, 4, 5, MOST, LEAST};
        for (int number : none) {
            due("count(" + number + ")", x.count(number), BAD);
        }
    }

    // ---- what is BAD in the calls that take two PLACES

    private static final String[] QUESTIONS = {"separated", "walk", "independent", "differ", "enough"};
    private static final int[] THEIR_PROMISES = {10, 11, 13, 14, 17};

    private static int ask(IndependenceRows x, String question, int a, int b, int set) {
        switch (question) {
            case "separated":
                return x.separated(a, b, set);
            case "walk":
                return x.walk(a, b, set);
            case "independent":
                return x.independent(a, b, set);
            case "differ":
                return x.differ(a, b, set);
            default:
                return x.enough(a, b, set);
        }
    }

    private static void badQuestion(IndependenceRows x, String question, int a, int b, int set) {
        due(question + "(" + a + ", " + b + ", " + set + ")", ask(x, question, a, b, set), BAD);
    }

    private static void badQuestions() {
        int[] noPlace = {-1, 8, 9, 31, 32, 33, MOST, LEAST};
        int[] noSet = {256, 257, 512, 1 << 30, MOST, LEAST, -1, -256};
        for (int i = 0; i < QUESTIONS.length; i++) {
            String question = QUESTIONS[i];
            sentence(THEIR_PROMISES[i], "BAD");
            IndependenceRows x = way(8);
            for (int number : noPlace) {
                badQuestion(x, question, number, 0, 0);
                badQuestion(x, question, 0, number, 0);
                badQuestion(x, question, number, number, 0);
            }
            for (int number : noSet) {
                badQuestion(x, question, 0, 7, number);
            }
            for (int p = 0; p < 8; p++) {
                int other = p == 0 ? 7 : 0;
                badQuestion(x, question, p, p, 0);
                badQuestion(x, question, p, other, 1 << p);
                badQuestion(x, question, other, p, 1 << p);
                badQuestion(x, question, p, other, 255);
            }
            x = places(2);
            badQuestion(x, question, 0, 2, 0);
            badQuestion(x, question, 2, 0, 0);
            badQuestion(x, question, 0, 1, 4);
            due(question + "(0, 1, 0) is none of these", ask(x, question, 0, 1, 0) == BAD ? BAD : 0, 0);
        }
    }

    private static void badPairs() {
        IndependenceRows x = way(8);
        int[] noPlace = {-1, 8, 9, 31, 32, 33, MOST, LEAST};
        for (int number : noPlace) {
            for (int p = 0; p < 8; p += 7) {
                badPair(x, p, number);
                badPair(x, number, p);
            }
            badPair(x, number, number);
        }
        for (int p = 0; p < 8; p++) {
            badPair(x, p, p);
        }
        x = places(2);
        badPair(x, 0, 2);
        badPair(x, 2, 0);
    }

    private static void badPair(IndependenceRows x, int a, int b) {
        String numbers = "(" + a + ", " + b + ")";
        sentence(4, "BAD");
        due("arc" + numbers, x.arc(a, b), BAD);
        sentence(5, "BAD");
        due("cut" + numbers, x.cut(a, b), BAD);
        sentence(16, "BAD");
        due("least" + numbers, x.least(a, b), BAD);
        sentence(20, "BAD");
        due("settled" + numbers, x.settled(a, b), BAD);
    }

    // ---- what is refused changes nothing

    /** A full graph with ODDS, HELD PLACES and another graph KEPT, so that each change would show. */
    private static IndependenceRows rich() {
        IndependenceRows x = graph(8, 0, 2, 1, 2, 2, 3, 2, 4, 3, 5, 4, 5, 5, 6, 6, 7, 0, 5);
        due("keep()", x.keep(), 9);
        due("arc(1, 7)", x.arc(1, 7), 10);
        for (int p = 0; p < 8; p++) {
            int rows = x.of(p, 4);
            for (int row = 0; row < rows; row++) {
                x.odds(p, row, (3 * p + 5 * row + 1) % 9);
            }
        }
        x.hold(3, 1);
        x.hold(7, 0);
        return x;
    }

    private static void sameAs(String after, IndependenceRows x, IndependenceRows twin) {
        for (int what = 0; what <= 3; what++) {
            due(after + ", then count(" + what + ")", x.count(what), twin.count(what));
        }
        int places = twin.count(0);
        for (int p = 0; p < places; p++) {
            for (int what = 0; what <= 4; what++) {
                due(after + ", then of(" + p + ", " + what + ")", x.of(p, what), twin.of(p, what));
            }
            int rows = twin.of(p, 4);
            for (int row = 0; row < rows; row++) {
                due(after + ", then told(" + p + ", " + row + ")", x.told(p, row), twin.told(p, row));
            }
            due(after + ", then blanket(" + p + ")", x.blanket(p), twin.blanket(p));
        }
        for (int values = 0; values < 1 << places; values += 5) {
            due(after + ", then weight of " + values,
                    x.weight((1 << places) - 1, values), twin.weight((1 << places) - 1, values));
        }
        due(after + ", then family()", x.family(), twin.family());
        due(after + ", then alike()", x.alike(), twin.alike());
    }

    private static void refusedChangesNothing() {
        sentence(0, "What is refused changes nothing");
        IndependenceRows twin = rich();
        IndependenceRows x = rich();
        due("place()", x.place(), FULL);
        sameAs("place()", x, twin);
        int[][] arcs = {{0, 0, BAD}, {0, 8, BAD}, {-1, 0, BAD}, {2, 0, JOINED}, {0, 2, JOINED}, {7, 0, RING},
            {6, 2, RING}, {0, 1, FULL}, {3, 4, FULL}};
        refused("arc", arcs);
        int[][] cuts = {{2, 2, BAD}, {2, 8, BAD}, {-1, 2, BAD}, {2, 0, NONE}, {0, 1, NONE}, {3, 4, NONE}};
        refused("cut", cuts);
        int[][] holds = {{3, 2, BAD}, {3, -2, BAD}, {8, 0, BAD}, {-1, 1, BAD}, {0, MOST, BAD}, {32, 1, BAD}};
        refused("hold", holds);
        int[][] odds = {{2, 4, 3, BAD}, {2, -1, 3, BAD}, {2, 0, 9, BAD}, {2, 3, -1, BAD}, {8, 0, 3, BAD},
            {-1, 0, 3, BAD}};
        refused("odds", odds);
    }

    private static void refused(String name, int[][] calls) {
        for (int[] call : calls) {
            IndependenceRows x = rich();
            String text = name + "(" + call[0] + ", " + call[1] + (call.length > 3 ? ", " + call[2] : "") + ")";
            due(text, change(x, name, call), call[call.length - 1]);
            sameAs(text, x, rich());
        }
    }

    private static int change(IndependenceRows x, String name, int[] numbers) {
        switch (name) {
            case "arc":
                return x.arc(numbers[0], numbers[1]);
            case "cut":
                return x.cut(numbers[0], numbers[1]);
            case "hold":
                return x.hold(numbers[0], numbers[1]);
            default:
                return x.odds(numbers[0], numbers[1], numbers[2]);
        }
    }

    private static void questionsChangeNothing() {
        sentence(0, "the answers and state changes described above");
        IndependenceRows x = rich();
        for (String question : QUESTIONS) {
            ask(x, question, 0, 7, 4);
            ask(x, question, 0, 0, 4);
            ask(x, question, 2, 5, 24);
        }
        for (int p = 0; p < 9; p++) {
            x.told(p, 1);
            x.of(p, 2);
            x.blanket(p);
            x.least(p, 7);
            x.settled(p, p + 1);
            x.weight(p, p);
        }
        x.family();
        x.count(2);
        x.alike();
        sameAs("questions", x, rich());
    }

    private static void objectsAreApart() {
        sentence(1, "A new object");
        IndependenceRows x = rich();
        IndependenceRows other = new IndependenceRows();
        due("count(0) of another one", other.count(0), 0);
        due("alike() of another one", other.alike(), NONE);
        due("place() of another one", other.place(), 0);
        due("told(0, 0) of another one", other.told(0, 0), 4);
        other.hold(0, 1);
        other.keep();
        other.clear();
        sameAs("another one", x, rich());
    }

    private static void lastOfAllCalls() {
        sentence(0, "at most 512 calls after it has been made");
        IndependenceRows x = new IndependenceRows();
        for (int call = 1; call <= 512; call++) {
            due("place() as call " + call, x.place(), call <= 8 ? call - 1 : FULL);
        }
        x = fiveAllJoined(8);
        for (int call = 19; call <= 512; call += 2) {
            due("family() as call " + call, x.family(), 120);
            due("differ(0, 7, 126) as call " + (call + 1), x.differ(0, 7, 126), NONE);
        }
        x = places(2);
        for (int call = 3; call <= 512; call += 3) {
            due("arc(0, 1) as call " + call, x.arc(0, 1), 1);
            due("keep() as call " + (call + 1), x.keep(), 1);
            due("cut(0, 1) as call " + (call + 2), x.cut(0, 1), 0);
        }
    }
}
