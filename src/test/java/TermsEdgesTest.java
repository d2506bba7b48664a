/** The edges that the document's terms name, sentence by sentence: the last that is so and the first that isn't. */
public final class TermsEdgesTest {
    static final int NONE = Edge.NONE, BAD = Edge.BAD, STATE = Edge.STATE, FULL = Edge.FULL, NOT_ANY = Edge.NOT_ANY;
    static final int MIN = Edge.MIN, MAX = Edge.MAX;
    static final long NO = Edge.NO;
    /** The most, the least and what lies beside them, for a number that none of these is. */
    static final int[] FAR = {MIN, MIN + 1, -1, MAX - 1, MAX};

    public static void main(String[] args) {
        Edge.section("What it is");
        calls();
        Edge.section("Terms");
        points();
        distances();
        tables();
        barred();
        functions();
        leastFunctions();
        tightTwos();
        corners();
        numbering();
        apartAndEyes();
        cells();
        depths();
        splits();
        weights();
        counting();
        rests();
        trees();
        texts();
        clauses();
        clauseN();
        clauseD();
        clauseS();
        clauseM();
        clauseH();
        numbersInTexts();
        faults();
        done();
        asked();
        shortened();
        byHand();
        madeLeast();
        middles();
        figures();
        maps();
        seen();
        fits();
        oddsAndMean();
        events();
        after();
        books();
        image();
        tapes();
        judged();
        hostRefusals();
        answers();
        inDoubt();
        inDoubtOfSetups();
        constants();
        Edge.allOf("What it is", "Terms");
        Edge.end();
    }

    static void words(String quote) { Edge.words(quote); }
    static void due(long got, long want) { Edge.due(got, want); }

    static void calls() {
        Edge.noEdge("Tight hulls of distance tables: distances between points, what bars them; least functions that keep apart as much as distances ask, corners of the hull, which twos are tight at each, cells that hold them; splits with what sets them apart, what is left without them; four points, trees when they are, the lines of a tree; distances shortened by ways, rounds, middles, maps that keep distances; set-ups read from texts, distances by which splits are as seen, odds, means, events, books, rows of distances judged, an image.");
        words("An object is used for at most 512 calls after it has been made; what later calls answer is free.");
        TightHulls t = new TightHulls();
        int[] corners = {6, 5, 8};
        for (int round = 1; round <= 128; round++) {
            int gap = round % 3 + 1;
            due(t.set(0, 1, gap), round == 1 ? 2 : (round - 1) % 3 + 1);
            due(t.corners(), corners[gap - 1]);
            due(t.told(6), 10 + gap);
            due(t.feed('h'), round <= 100 ? round : FULL);
        }
    }

    // ---- points, tables

    static void points() {
        words("POINTS 0 .. n - 1 (n 3 .. 5; 4 at first).");
        TightHulls t = new TightHulls();
        due(t.told(0), 4);
        due(t.of(3, 0, 0), 2);
        due(t.of(4, 0, 0), NONE);
        due(t.points(2), BAD);
        due(t.points(3), 4);
        due(t.points(6), BAD);
        due(t.points(5), 3);
        due(t.points(0), BAD);
        for (int n : FAR) due(t.points(n), BAD);
        due(t.told(0), 5);
        for (int n = 3; n <= 5; n++) {
            t.points(n);
            due(t.of(0, 0, 0), 0);
            due(t.of(n - 1, n - 1, 0), 0);
            due(t.of(-1, -1, 0), NONE);
            due(t.of(n, n, 0), NONE);
        }
    }

    static void distances() {
        words("DISTANCE of each two unlike POINTS (0 .. 40; 2 at first), the same both ways; of a POINT and itself 0.");
        for (int n = 3; n <= 5; n++) {
            TightHulls t = new TightHulls();
            if (n != 4) t.points(n);
            for (int x = 0; x < n; x++) {
                for (int y = 0; y < n; y++) due(t.of(x, y, 0), x == y ? 0 : 2);
            }
            for (int x = 0; x < n; x++) {
                for (int y = 0; y < n; y++) if (x != y) distance(t, x, y);
                due(t.set(x, x, 0), NONE);
                due(t.set(x, x, 2), NONE);
                due(t.of(x, x, 0), 0);
            }
        }
    }

    static void distance(TightHulls t, int x, int y) {
        due(t.set(x, y, 0), 2);
        due(t.of(y, x, 0), 0);
        due(t.set(y, x, 40), 0);
        due(t.set(x, y, -1), BAD);
        due(t.set(x, y, 41), BAD);
        due(t.of(x, y, 0), 40);
        due(t.of(y, x, 0), 40);
        due(t.set(x, y, 2), 40);
    }

    static void tables() {
        words("It is A TABLE, if of any three POINTS x, y, z DISTANCE of x and z is no more than DISTANCES of x and y and of y and z, together.");
        due(Edge.with(3, 2, 5, 3).told(1), 1);
        due(Edge.with(3, 2, 6, 3).told(1), 0);
        due(Edge.with(3, 5, 2, 3).told(1), 1);
        due(Edge.with(3, 6, 2, 3).told(1), 0);
        due(Edge.with(3, 2, 3, 5).told(1), 1);
        due(Edge.with(3, 2, 3, 6).told(1), 0);
        due(Edge.with(3, 0, 0, 0).told(1), 1);
        due(Edge.with(3, 0, 1, 0).told(1), 0);
        due(Edge.with(3, 40, 40, 40).told(1), 1);
        due(Edge.with(3, 20, 40, 20).told(1), 1);
        due(Edge.with(3, 20, 40, 19).told(1), 0);
        for (int n = 3; n <= 5; n++) {
            for (int x = 0; x < n; x++) for (int y = 0; y < n; y++) for (int z = x + 1; z < n; z++) {
                if (y == x || y == z) continue;
                due(justThree(n, x, y, z, 14).told(1), 0);
                due(justThree(n, x, y, z, 15).told(1), 1);
                due(justThree(n, x, y, z, 16).told(1), 1);
            }
        }
    }

    /** Of all threes only x, y, z can be barred: x and z are 30 apart, x and y 15. */
    static TightHulls justThree(int n, int x, int y, int z, int yz) {
        TightHulls t = Edge.even(n, 20);
        t.set(x, z, 30);
        t.set(x, y, 15);
        t.set(y, z, yz);
        return t;
    }

    static void barred() {
        words("BARRED: the first three (x, then y, then z; the least first) of which it isn't so.");
        for (int n = 3; n <= 5; n++) {
            for (int x = 0; x < n; x++) for (int y = 0; y < n; y++) for (int z = x + 1; z < n; z++) {
                if (y == x || y == z) continue;
                due(justThree(n, x, y, z, 14).told(2), 100 * x + 10 * y + z);
                due(justThree(n, x, y, z, 15).told(2), NOT_ANY);
            }
        }
        // y is asked before z: 0, 1, 3 and 0, 2, 1 are barred
        due(Edge.with(4, 3, 1, 9, 1, 1, 8).told(2), 13);
        // of one x and y the least z: 0, 1, 2 and 0, 1, 3
        due(Edge.with(4, 1, 3, 3, 1, 1, 2).told(2), 12);
        // x is asked before y: 0, 3, 1 and 1, 0, 2
        due(Edge.with(4, 1, 1, 0, 3, 0, 1).told(2), 31);
        due(Edge.with(3, 2, 2, 2).told(2), NOT_ANY);
    }

    // ---- functions

    static void functions() {
        words("All that is halves is told twice as great, as a whole number: it is said to be IN HALVES.");
        due(Edge.even(3, 1).at(1, 0), 1);
        due(Edge.even(3, 1).middle(0, 1, 2), 1);
        due(Edge.even(3, 1).weight(2), 1);
        words("A FUNCTION: of each POINT a number IN HALVES (0 or more).");
        TightHulls t = new TightHulls();
        due(t.function(0, -1), BAD);
        due(t.function(0, 0), 0);
        due(t.function(0, 1), 0);
        due(t.functionOf(0), 1);
        words("It KEEPS, if of any two POINTS (unlike ones) their numbers, together, are twice their DISTANCE or more.");
        for (int n = 3; n <= 5; n++) {
            TightHulls u = Edge.even(n, 0);
            due(u.functionOf(10), 1);
            for (int x = 0; x < n; x++) for (int y = x + 1; y < n; y++) keepsOne(u, x, y);
        }
        // not of a POINT and itself
        TightHulls one = Edge.even(3, 2);
        Edge.numbers(one, 0, 4, 4);
        due(one.functionOf(10), 1);
        Edge.numbers(one, 0, 4, 3);
        due(one.functionOf(10), 0);
        TightHulls far = Edge.even(3, 40);
        Edge.numbers(far, 160, 0, 80);
        due(far.functionOf(10), 1);
        Edge.numbers(far, 160, 0, 79);
        due(far.functionOf(10), 0);
    }

    static void keepsOne(TightHulls t, int x, int y) {
        t.set(x, y, 3);
        t.function(x, 3);
        t.function(y, 2);
        due(t.functionOf(10), 0);
        t.function(y, 3);
        due(t.functionOf(10), 1);
        t.function(y, 4);
        due(t.functionOf(10), 1);
        t.set(x, y, 0);
        t.function(x, 0);
        t.function(y, 0);
    }

    static void leastFunctions() {
        words("It is LEAST, if it KEEPS, and for each POINT x there is a POINT y so that the numbers of x and y, together, are just twice their DISTANCE (y may be x: its number is 0).");
        for (int n = 3; n <= 5; n++) {
            TightHulls t = Edge.even(n, 2);
            for (int p = 0; p < n; p++) t.function(p, 2);
            due(t.functionOf(11), 1);
            for (int p = 0; p < n; p++) {
                t.function(p, 3);
                due(t.functionOf(10), 1);
                due(t.functionOf(11), 0);
                t.function(p, 2);
            }
        }
        // each has one that is just so, but two others are too near
        TightHulls near = Edge.even(4, 2);
        Edge.numbers(near, 3, 1, 3, 3);
        due(near.functionOf(11), 1);
        near.set(2, 3, 3);
        due(near.functionOf(11), 1);
        near.set(2, 3, 4);
        due(near.functionOf(11), 0);
        // one that is tight with itself alone
        TightHulls own = Edge.barred();
        Edge.numbers(own, 5, 0, 5);
        due(own.functionOf(11), 1);
        own.function(1, 1);
        due(own.functionOf(10), 1);
        due(own.functionOf(11), 0);
    }

    static void tightTwos() {
        words("A TIGHT two at a FUNCTION: two unlike POINTS of which that is so, or one POINT whose number is 0 (told as the two of it and itself).");
        TightHulls t = Edge.rectangle();
        due(t.at(0, 0), 0);
        due(t.tight(0, 0, 0), 1);
        for (int p = 1; p < 4; p++) {
            due(t.tight(0, p, p), 0);
            due(t.tight(0, 0, p), 1);
            due(t.tight(0, p, 0), 1);
        }
        due(t.tight(0, 1, 2), 0);
        due(t.tight(0, 2, 3), 0);
        // numbers 1 with themselves are none
        TightHulls u = Edge.even(3, 1);
        due(u.at(1, 2), 1);
        due(u.tight(1, 2, 2), 0);
        due(u.tight(1, 2, 0), 1);
        due(u.corner(1, 0), 3);
        // all are TIGHT with all where nothing is apart
        due(Edge.even(5, 0).corner(0, 0), 15);
        due(Edge.even(3, 0).corner(0, 0), 6);
    }

    // ---- corners

    static void corners() {
        words("CORNERS of THE HULL, if it is A TABLE: LEAST FUNCTIONS at which each lot of POINTS that hang together by TIGHT twos has an odd round (TIGHT twos x y, y z, .. back to x, an odd number of them; a POINT's two with itself is such a round, of one).");
        due(Edge.with(3, 2, 5, 3).corners(), 3);
        due(Edge.with(3, 2, 6, 3).corners(), STATE);
        // of one: the one EYE that all have
        due(Edge.even(5, 0).corners(), 1);
        due(Edge.even(3, 0).corners(), 1);
        // of three
        due(Edge.even(3, 1).corners(), 4);
        Edge.dueNumbers(cornerAsFunction(Edge.even(3, 1), 1), 1, 1, 1);
        // of five: TIGHT are those across alone
        TightHulls five = Edge.pentagon();
        int round = cornerWith(five, 3, 3, 3, 3, 3);
        due(five.corner(round, 0), 5);
        for (int p = 0; p < 5; p++) {
            due(five.tight(round, p, (p + 2) % 5), 1);
            due(five.tight(round, p, (p + 1) % 5), 0);
        }
        // of two and of four: LEAST, and no CORNER
        TightHulls four = Edge.with(4, 2, 1, 2, 2, 1, 2);
        Edge.numbers(four, 2, 2, 2, 2);
        due(four.functionOf(11), 1);
        due(cornerWith(four, 2, 2, 2, 2), -1);
        due(cornerWith(Edge.rectangle(), 5, 5, 5, 5), -1);
        // one lot has an odd round, the other one has none
        TightHulls two = Edge.with(5, 2, 2, 2, 2, 2, 2, 2, 2, 2, 4);
        Edge.numbers(two, 2, 2, 2, 4, 4);
        due(two.functionOf(11), 1);
        due(cornerWith(two, 2, 2, 2, 4, 4), -1);
        due(two.corners(), 7);
        due(cornerWith(two, 2, 2, 2, 2, 6) >= 0 && cornerWith(two, 2, 2, 2, 6, 2) >= 0 ? 1 : 0, 1);
        // of five, of which one is as far from the others as may be: 0 1 2 3 4 and back, 4 2 1 0 3 and back
        TightHulls far = Edge.with(5, 40, 39, 39, 40, 2, 1, 1, 2, 1, 2);
        due(far.told(1), 1);
        due(far.corner(cornerWith(far, 78, 2, 2, 2, 2), 0), 5);
        TightHulls last = Edge.with(5, 2, 1, 2, 39, 2, 1, 39, 1, 40, 40);
        due(last.told(1), 1);
        due(last.corner(cornerWith(last, 2, 2, 2, 2, 78), 0), 5);
        for (int n = 3; n <= 5; n++) for (int ties = 0; ties < 1 << n * (n - 1) / 2; ties++) cornerByTies(n, ties);
    }

    /** Numbers 10, 12, .. of which just these twos are TIGHT: a CORNER, if no POINT is free and no lot goes by turns. */
    static void cornerByTies(int n, int ties) {
        TightHulls t = new TightHulls();
        t.points(n);
        boolean[][] tight = new boolean[n][n];
        int[] numbers = new int[n];
        int i = 0;
        for (int x = 0; x < n; x++) {
            numbers[x] = 10 + 2 * x;
            for (int y = x + 1; y < n; y++, i++) {
                tight[x][y] = tight[y][x] = (ties >> i & 1) == 1;
                t.set(x, y, 10 + x + y - (tight[x][y] ? 0 : 1));
            }
        }
        Edge.numbers(t, numbers);
        boolean least = noneFree(tight);
        int depth = lotsByTurns(tight);
        due(t.functionOf(11), least ? 1 : 0);
        due(t.functionOf(12), least ? depth : NOT_ANY);
        int corner = cornerWith(t, numbers);
        due(corner >= 0 ? 1 : 0, least && depth == 0 ? 1 : 0);
        if (corner >= 0) due(t.corner(corner, 0), Integer.bitCount(ties));
    }

    static boolean noneFree(boolean[][] tight) {
        for (boolean[] row : tight) {
            boolean met = false;
            for (boolean so : row) met = met || so;
            if (!met) return false;
        }
        return true;
    }

    /** Lots of which the POINTS go by turns, so that no two of one turn are TIGHT: those without an odd round. */
    static int lotsByTurns(boolean[][] tight) {
        int n = tight.length, ways = 0;
        for (int turns = 0; turns < 1 << n; turns++) {
            boolean so = true;
            for (int x = 0; x < n; x++) for (int y = 0; y < n; y++) so = so && !(tight[x][y] && (turns >> x & 1) == (turns >> y & 1));
            ways += so ? 1 : 0;
        }
        if (ways > 0) return Integer.numberOfTrailingZeros(ways);
        // one lot has an odd round: of five POINTS the others are one lot more at most, of two or one
        int many = 0;
        for (int x = 0; x < n; x++) for (int y = x + 1; y < n; y++) many += tight[x][y] && alone(tight, x, y) ? 1 : 0;
        return many;
    }

    static boolean alone(boolean[][] tight, int x, int y) {
        for (int z = 0; z < tight.length; z++) if (z != x && z != y && (tight[x][z] || tight[y][z])) return false;
        return true;
    }

    static TightHulls cornerAsFunction(TightHulls t, int corner) {
        t.least(1, corner);
        return t;
    }

    /** The CORNER with these numbers; -1: none. */
    static int cornerWith(TightHulls t, int... numbers) {
        for (int c = 0; c < t.corners(); c++) {
            boolean so = true;
            for (int p = 0; p < numbers.length; p++) so = so && t.at(c, p) == numbers[p];
            if (so) return c;
        }
        return -1;
    }

    static void numbering() {
        words("They are numbered from 0 by the number of POINT 0, of like ones of POINT 1, and so on, the least first.");
        int[][] even = {{0, 4, 4, 4, 4}, {2, 2, 2, 2, 2}, {4, 0, 4, 4, 4}, {4, 4, 0, 4, 4}, {4, 4, 4, 0, 4}, {4, 4, 4, 4, 0}};
        inOrder(Edge.even(5, 2), even);
        int[][] across = {{0, 6, 8, 10}, {2, 4, 6, 8}, {4, 2, 8, 6}, {6, 0, 10, 8},
            {6, 8, 2, 4}, {8, 6, 4, 2}, {8, 10, 0, 6}, {10, 8, 6, 0}};
        inOrder(Edge.rectangle(), across);
        int[][] far = {{0, 80, 80}, {40, 40, 40}, {80, 0, 80}, {80, 80, 0}};
        inOrder(Edge.even(3, 40), far);
    }

    static void inOrder(TightHulls t, int[][] corners) {
        due(t.corners(), corners.length);
        for (int c = 0; c < corners.length; c++) {
            for (int p = 0; p < corners[c].length; p++) due(t.at(c, p), corners[c][p]);
        }
        due(t.at(corners.length, 0), NONE);
        due(t.at(-1, 0), NONE);
    }

    static void apartAndEyes() {
        words("APART of two CORNERS: the greatest of how far their numbers of one POINT are from one another (IN HALVES).");
        TightHulls t = Edge.rectangle();
        due(t.two(0, 7, 0), 10);
        due(t.two(0, 1, 0), 2);
        due(t.two(1, 0, 0), 2);
        due(t.two(3, 3, 0), 0);
        due(Edge.even(3, 40).two(0, 3, 0), 80);
        due(Edge.even(3, 40).two(2, 0, 0), 80);
        words("EYES: those CORNERS that are a POINT's: number 0 there, and of each other POINT twice its DISTANCE to that.");
        TightHulls[] all = {Edge.rectangle(), Edge.pentagon(), Edge.even(3, 40), Edge.even(5, 0), Edge.with(3, 0, 7, 7)};
        for (TightHulls u : all) {
            int n = u.told(0);
            for (int p = 0; p < n; p++) {
                for (int q = 0; q < n; q++) due(u.at(u.eye(p), q), 2 * u.of(p, q, 0));
            }
        }
    }

    static void cells() {
        words("CELL of two CORNERS: the TIGHT twos that both have;");
        TightHulls t = Edge.rectangle();
        due(t.two(0, 0, 2), 4);
        due(t.two(0, 1, 2), 3);
        due(t.two(0, 2, 2), 2);
        due(t.two(0, 7, 2), 1);
        due(Edge.even(5, 0).two(0, 0, 2), 15);
        words("BESIDE one another are two unlike CORNERS, if each POINT is in one of these, and no third CORNER has them all.");
        due(t.two(0, 1, 1), 1);
        due(t.two(1, 0, 1), 1);
        due(t.two(1, 2, 1), 1);
        // like ones
        for (int c = 0; c < 8; c++) due(t.two(c, c, 1), 0);
        due(Edge.even(5, 0).two(0, 0, 1), 0);
        // POINT 2 is in none of 0 1, 0 3
        due(t.two(0, 2, 1), 0);
        // each is in 0 3, 1 2, but the third one, 2, has these, too
        due(t.two(1, 5, 2), 2);
        due(t.two(1, 5, 1), 0);
        due(t.tight(2, 0, 3) + t.tight(2, 1, 2), 2);
        // each POINT in turn is in none of what the EYES of two others have
        TightHulls u = Edge.even(4, 2);
        for (int p = 0; p < 4; p++) for (int q = 0; q < 4; q++) due(u.two(u.eye(p), u.eye(q), 1), 0);
        for (int p = 0; p < 4; p++) due(u.two(u.eye(p), 1, 1), p == 1 && u.eye(p) == 1 ? 0 : 1);
    }

    static void depths() {
        words("DEPTH of a CORNER: how many lots (POINTS that hang together by TIGHT twos; each POINT is in one) there are, less how many of them have an odd round (0 at a CORNER; told of any LEAST FUNCTION).");
        TightHulls[] all = {Edge.rectangle(), Edge.pentagon(), Edge.even(3, 1), Edge.even(5, 0)};
        for (TightHulls t : all) {
            for (int c = 0; c < t.corners(); c++) {
                t.least(1, c);
                due(t.functionOf(12), 0);
            }
        }
        depth(Edge.rectangle(), 2, 5, 5, 5, 5);
        depth(Edge.rectangle(), 2, 4, 4, 6, 6);
        depth(Edge.rectangle(), 1, 3, 3, 7, 7);
        depth(Edge.with(4, 2, 1, 2, 2, 1, 2), 1, 2, 2, 2, 2);
        depth(Edge.with(5, 2, 2, 2, 2, 2, 2, 2, 2, 2, 4), 1, 2, 2, 2, 4, 4);
        // no TABLE: 0 1 and 2 3, 2 4 are all that is apart
        depth(Edge.with(5, 2, 0, 0, 0, 0, 0, 0, 2, 2, 0), 2, 2, 2, 2, 2, 2);
        depth(Edge.with(5, 2, 0, 0, 0, 0, 0, 0, 2, 2, 2), 1, 2, 2, 2, 2, 2);
        depth(Edge.barred(), 1, 5, 0, 5);
        depth(Edge.barred(), NOT_ANY, 5, 1, 5);
        depth(Edge.even(3, 0), 0, 0, 0, 0);
        depth(Edge.even(3, 2), 1, 1, 3, 3);
        depth(Edge.even(3, 2), 0, 2, 2, 2);
    }

    static void depth(TightHulls t, int depth, int... numbers) {
        Edge.numbers(t, numbers);
        due(t.functionOf(12), depth);
    }

    // ---- splits, trees

    static void splits() {
        words("A SPLIT: POINTS in two lots, neither empty; told by the bits of that which has not POINT 0.");
        for (int n = 3; n <= 5; n++) {
            TightHulls t = Edge.even(n, 2);
            due(t.weight(0), NONE);
            for (int bits = 1; bits < 1 << n; bits++) {
                boolean one = Integer.bitCount(bits) == 1 || Integer.bitCount(bits) == n - 1;
                due(t.weight(bits), bits % 2 == 1 ? NONE : one ? 2 : 0);
            }
            due(t.weight(1 << n), NONE);
            due(t.weight((1 << n) + 1), NONE);
            due(t.weight((1 << n) + 2), NONE);
            due(t.weight(64), NONE);
            due(t.weight(-2), NONE);
            for (int far : FAR) due(t.weight(far), NONE);
        }
    }

    static void weights() {
        words("Its WEIGHT IN HALVES: over all a, b of the one lot (b may be a), c, d of the other one (d may be c) the least of: the greatest of (DISTANCES of a and b, and of c and d), (of a and c, and of b and d), (of a and d, and of b and c), less DISTANCES of a and b, and of c and d. (Each two of numbers together.)");
        TightHulls t = Edge.with(3, 3, 4, 5);
        due(t.weight(2), 4);
        due(t.weight(4), 6);
        due(t.weight(6), 2);
        // 0 at least, where DISTANCES within the lots are the greatest
        due(Edge.with(3, 1, 2, 1).weight(2), 0);
        due(Edge.with(3, 1, 3, 1).weight(2), 0);
        due(Edge.with(4, 9, 9, 10, 10, 9, 9).weight(6), 0);
        due(Edge.with(4, 9, 9, 9, 9, 9, 9).weight(6), 0);
        due(Edge.with(4, 10, 9, 9, 9, 9, 9).weight(6), 1);
        // b is a and d is c: twice the DISTANCE of 0 and 1
        due(Edge.with(4, 2, 40, 1, 1, 40, 40).weight(6), 4);
        due(Edge.with(4, 40, 2, 1, 1, 40, 40).weight(6), 4);
        due(Edge.with(4, 40, 40, 1, 1, 2, 40).weight(6), 4);
        due(Edge.with(4, 40, 40, 1, 1, 40, 2).weight(6), 4);
        // unlike ones, this way and that way across
        due(Edge.with(4, 10, 8, 7, 7, 8, 10).weight(6), 6);
        due(Edge.with(4, 8, 10, 7, 7, 10, 8).weight(6), 6);
        // b is a, d is not c: 10 and 10 less 19
        due(Edge.with(3, 10, 19, 10).weight(2), 1);
        due(Edge.with(3, 0, 40, 40).weight(4), 80);
        due(Edge.with(3, 40, 40, 0).weight(6), 80);
    }

    static void counting() {
        words("It COUNTS, if that is above 0; SPLITS that COUNT are numbered from 0 by WEIGHT, the greatest first, of like ones by bits, the least first.");
        TightHulls t = Edge.with(3, 1, 2, 1);
        due(t.weight(2), 0);
        due(t.told(3), 2);
        dueSplits(t, 4, 2, 6, 2);
        TightHulls one = Edge.even(3, 1);
        due(one.weight(2), 1);
        due(one.told(3), 3);
        dueSplits(one, 2, 1, 4, 1, 6, 1);
        dueSplits(Edge.with(3, 3, 4, 5), 4, 6, 2, 4, 6, 2);
        dueSplits(Edge.rectangle(), 12, 4, 2, 2, 4, 2, 8, 2, 10, 2, 14, 2);
        dueSplits(Edge.even(5, 2), 2, 2, 4, 2, 8, 2, 16, 2, 30, 2);
        dueSplits(Edge.even(3, 0));
        due(Edge.even(3, 0).told(3), 0);
    }

    /** Bits and WEIGHT of each that COUNTS, and none behind. */
    static void dueSplits(TightHulls t, int... all) {
        due(t.told(3), all.length / 2);
        for (int i = 0; i < all.length / 2; i++) {
            due(t.split(i, 0), all[2 * i]);
            due(t.split(i, 1), all[2 * i + 1]);
        }
        due(t.split(all.length / 2, 0), NOT_ANY);
        due(t.split(all.length / 2, 1), NOT_ANY);
    }

    static void rests() {
        words("REST of two POINTS IN HALVES: twice their DISTANCE, less WEIGHTS of all SPLITS that COUNT of which they are in two lots.");
        TightHulls t = Edge.with(3, 3, 4, 5);
        for (int x = 0; x < 3; x++) for (int y = 0; y < 3; y++) due(t.of(x, y, 2), 0);
        // nothing COUNTS: all is left
        TightHulls all = Edge.with(5, 2, 1, 1, 1, 1, 1, 1, 2, 2, 2);
        due(all.told(3), 0);
        for (int x = 0; x < 5; x++) for (int y = 0; y < 5; y++) due(all.of(x, y, 2), 2 * all.of(x, y, 0));
        // no TABLE: SPLITS 4 and 6 COUNT 2 each
        TightHulls no = Edge.barred();
        dueSplits(no, 4, 2, 6, 2);
        due(no.of(0, 1, 2), 0);
        due(no.of(0, 2, 2), 6);
        due(no.of(1, 2, 2), 0);
        due(no.of(2, 2, 2), 0);
    }

    static void trees() {
        words("FOURS: of any four POINTS the sums of DISTANCES of two and of the two others, in the three ways: IT IS A TREE, if it is A TABLE, and of any four POINTS the two greatest of these are alike.");
        due(fourWith(8, 8, 8).told(4), 1);
        due(fourWith(9, 8, 8).told(4), 0);
        due(fourWith(8, 9, 8).told(4), 0);
        due(fourWith(8, 8, 9).told(4), 0);
        due(fourWith(9, 9, 8).told(4), 1);
        due(fourWith(9, 8, 9).told(4), 1);
        due(fourWith(8, 9, 9).told(4), 1);
        due(fourWith(9, 9, 9).told(4), 1);
        due(fourWith(9, 10, 8).told(4), 0);
        due(fourWith(10, 8, 9).told(4), 0);
        due(fourWith(8, 9, 10).told(4), 0);
        // sums 13 in all ways, and no TABLE
        due(Edge.with(4, 13, 6, 7, 6, 7, 0).told(4), 0);
        due(Edge.with(4, 12, 6, 6, 6, 6, 0).told(4), 1);
        due(Edge.with(3, 3, 4, 5).told(4), 1);
        due(Edge.with(3, 3, 9, 5).told(4), 0);
        // of five, two fours alone aren't so
        int[][] fives = {{3, 3, 2, 2, 2, 2, 2, 2, 2, 2}, {3, 2, 3, 2, 2, 2, 2, 2, 2, 2}, {2, 3, 3, 2, 2, 2, 2, 2, 2, 2},
            {3, 2, 2, 3, 2, 2, 2, 2, 2, 2}, {2, 3, 2, 3, 2, 2, 2, 2, 2, 2}, {2, 2, 3, 3, 2, 2, 2, 2, 2, 2},
            {3, 2, 2, 2, 3, 2, 2, 2, 2, 2}, {2, 3, 2, 2, 3, 2, 2, 2, 2, 2}, {3, 3, 3, 2, 3, 2, 2, 2, 2, 2},
            {3, 3, 2, 3, 3, 2, 2, 2, 2, 2}};
        for (int[] five : fives) {
            due(Edge.with(5, five).told(1), 1);
            due(Edge.with(5, five).told(4), 0);
        }
        due(Edge.with(5, 4, 5, 6, 7, 7, 8, 9, 5, 6, 3).told(4), 1);
        due(Edge.even(5, 0).told(4), 1);
        Edge.noEdge("LINES of a TREE: SPLITS that COUNT.");
    }

    /** Four POINTS with these sums of twos: 0 1 and 2 3, 0 2 and 1 3, 0 3 and 1 2. */
    static TightHulls fourWith(int one, int two, int three) {
        return Edge.with(4, one - 4, two - 4, three - 4, 4, 4, 4);
    }

    // ---- texts

    static void texts() {
        words("A set-up is read from THE TEXT (bytes, 100 at most):");
        TightHulls t = new TightHulls();
        String clause = "s0123 12;";
        for (int i = 0; i < 99; i++) due(t.feed(clause.charAt(i % 9)), i + 1);
        due(t.feed('h'), 100);
        due(t.feed(';'), FULL);
        due(t.count(3), 100);
        due(t.read(), 12);
        Edge.dueGaps(t, 2, 2, 2, 2, 2, 2);
        // one byte more of the last CLAUSE would be needed
        for (int i = 0; i < 99; i++) due(t.feed(clause.charAt(i % 9)), i + 1);
        due(t.feed('m'), 100);
        due(t.feed('1'), FULL);
        due(t.read(), -110);
    }

    static void clauses() {
        words("CLAUSES, 1 to 12, with ; between:");
        TightHulls t = new TightHulls();
        StringBuilder text = new StringBuilder();
        due(t.read(), -10);
        for (int many = 1; many <= 14; many++) {
            text.append(many > 1 ? ";h" : "h");
            due(Edge.read(t, text.toString()), many <= 12 ? many : -33);
        }
        due(Edge.read(t, ";"), -10);
        due(Edge.read(t, ";h"), -10);
        due(Edge.read(t, "h;"), -12);
        due(Edge.read(t, "h;;h"), -12);
        due(Edge.read(t, "hh"), -11);
        due(Edge.read(t, "h,h"), -11);
        due(Edge.read(t, "n4n4"), -12);
    }

    static void clauseN() {
        words("n DIGIT (as points());");
        TightHulls t = Edge.rectangle();
        for (int digit = 0; digit <= 9; digit++) due(Edge.read(t, "n" + digit), digit >= 3 && digit <= 5 ? 1 : 0);
        due(t.told(0), 5);
        for (int n = 3; n <= 5; n++) {
            Edge.numbers(t, 1, 2, 3, 4, 5);
            Edge.map(t, 2, 1, 0);
            t.set(0, 1, 9);
            due(Edge.read(t, "n" + n), 1);
            due(t.told(0), n);
            for (int x = 0; x < n; x++) {
                due(t.functionOf(x), 0);
                due(t.mapOf(x), x);
                for (int y = 0; y < n; y++) due(t.of(x, y, 0), x == y ? 0 : 2);
            }
        }
        due(Edge.read(t, "n"), -11);
        due(Edge.read(t, "n/"), -11);
        due(Edge.read(t, "n:"), -11);
        due(Edge.read(t, "n55"), -12);
        due(Edge.read(t, "n 5"), -11);
    }

    static void clauseD() {
        words("d DIGIT DIGIT NUMBER (DISTANCE of two; as set());");
        TightHulls t = new TightHulls();
        due(Edge.read(t, "d010"), 1);
        due(t.of(0, 1, 0), 0);
        due(Edge.read(t, "d1040"), 1);
        due(t.of(0, 1, 0), 40);
        due(Edge.read(t, "d0141"), 0);
        due(Edge.read(t, "d0199"), 0);
        due(t.of(0, 1, 0), 40);
        due(Edge.read(t, "d007"), 0);
        due(Edge.read(t, "d0007"), 0);
        due(Edge.read(t, "d327"), 1);
        due(t.of(2, 3, 0), 7);
        due(Edge.read(t, "d347"), 0);
        due(Edge.read(t, "d437"), 0);
        due(Edge.read(t, "d907"), 0);
        Edge.dueGaps(t, 40, 2, 2, 2, 2, 7);
        due(Edge.read(t, "d"), -11);
        due(Edge.read(t, "d0"), -12);
        due(Edge.read(t, "d01"), -13);
        due(Edge.read(t, "d01 1"), -13);
        due(Edge.read(t, "d0 11"), -12);
        due(Edge.read(t, "d01111"), -15);
    }

    static void clauseS() {
        words("s DIGITS NUMBER, there being 1 to 4 DIGITS and one blank ahead of NUMBER (all DISTANCES of two POINTS of which just one is told are that much more, 40 at most; refused, if one isn't there);");
        TightHulls t = Edge.even(5, 1);
        due(Edge.read(t, "s 1"), -11);
        due(Edge.read(t, "s4 1"), 1);
        Edge.dueGaps(t, 1, 1, 1, 2, 1, 1, 2, 1, 2, 2);
        due(Edge.read(t, "s14 2"), 1);
        Edge.dueGaps(t, 3, 1, 1, 4, 3, 3, 2, 1, 4, 4);
        due(Edge.read(t, "s012 3"), 1);
        Edge.dueGaps(t, 3, 1, 4, 7, 3, 6, 5, 4, 7, 4);
        due(Edge.read(t, "s1234 4"), 1);
        Edge.dueGaps(t, 7, 5, 8, 11, 3, 6, 5, 4, 7, 4);
        due(Edge.read(t, "s01234 1"), -15);
        due(Edge.read(t, "s01"), -13);
        due(Edge.read(t, "s01;1"), -13);
        due(Edge.read(t, "s01 "), -14);
        due(Edge.read(t, "s01  1"), -14);
        due(Edge.read(t, "s01 123"), -16);
        // 40 at most
        TightHulls most = Edge.with(3, 38, 39, 40);
        due(Edge.read(most, "s0 1"), 1);
        Edge.dueGaps(most, 39, 40, 40);
        due(Edge.read(most, "s0 1"), 1);
        Edge.dueGaps(most, 40, 40, 40);
        due(Edge.read(Edge.even(3, 0), "s0 41"), 1);
        TightHulls much = Edge.even(3, 0);
        Edge.read(much, "s0 39;s1 99");
        Edge.dueGaps(much, 40, 39, 40);
        // one that isn't there
        for (int n = 3; n <= 5; n++) {
            TightHulls u = Edge.even(n, 2);
            due(Edge.read(u, "s" + (n - 1) + " 0"), 1);
            due(Edge.read(u, "s" + n + " 1"), 0);
            due(Edge.read(u, "s0" + n + " 1"), 0);
            due(Edge.read(u, "s" + n + "01 1"), 0);
            due(Edge.read(u, "s9012 1"), 0);
            for (int x = 0; x < n; x++) for (int y = 0; y < n; y++) due(u.of(x, y, 0), x == y ? 0 : 2);
        }
        // all are told, so none has just one
        TightHulls whole = Edge.with(3, 1, 2, 3);
        due(Edge.read(whole, "s012 9"), 1);
        Edge.dueGaps(whole, 1, 2, 3);
    }

    static void clauseM() {
        words("m NUMBER (all DISTANCES times that, 40 at most);");
        TightHulls t = Edge.with(3, 0, 1, 2);
        due(Edge.read(t, "m1"), 1);
        Edge.dueGaps(t, 0, 1, 2);
        due(Edge.read(t, "m20"), 1);
        Edge.dueGaps(t, 0, 20, 40);
        due(Edge.read(t, "m2"), 1);
        Edge.dueGaps(t, 0, 40, 40);
        TightHulls u = Edge.with(3, 1, 2, 3);
        due(Edge.read(u, "m13"), 1);
        Edge.dueGaps(u, 13, 26, 39);
        TightHulls v = Edge.with(3, 1, 2, 3);
        due(Edge.read(v, "m14"), 1);
        Edge.dueGaps(v, 14, 28, 40);
        due(Edge.read(v, "m99"), 1);
        Edge.dueGaps(v, 40, 40, 40);
        due(Edge.read(v, "m"), -11);
        due(Edge.read(v, "m-1"), -11);
        due(Edge.read(v, "m100"), -13);
    }

    static void clauseH() {
        words("h (as shorten()).");
        TightHulls t = Edge.barred();
        due(Edge.read(t, "h"), 1);
        Edge.dueGaps(t, 1, 2, 1);
        due(Edge.read(t, "h1"), -11);
        due(Edge.read(t, "H"), -10);
    }

    static void numbersInTexts() {
        words("NUMBER: 1 or 2 digits.");
        TightHulls t = Edge.even(3, 1);
        due(Edge.read(t, "m"), -11);
        due(Edge.read(t, "m9"), 1);
        Edge.dueGaps(t, 9, 9, 9);
        due(Edge.read(t, "m04"), 1);
        Edge.dueGaps(t, 36, 36, 36);
        due(Edge.read(t, "m004"), -13);
        due(Edge.read(t, "d015;d0208;d12"), -24);
        due(Edge.read(t, "d015;d0208;d1209"), 3);
        Edge.dueGaps(t, 5, 8, 9);
        due(Edge.read(t, "d01100"), -15);
        due(Edge.read(t, "s0 1;s0 01;s0 "), -24);
        due(Edge.read(t, "s0 1;s0 01;s0 10"), 3);
        Edge.dueGaps(t, 17, 20, 9);
        due(Edge.read(t, "s0 001"), -15);
        words("Nothing else stands between.");
        String[] texts = {" h", "h ", "h; h", "h ;h", "n 3", "d 01 3", "d01 3", "s 0 3", "m 3", "h\n", "h\0"};
        int[] faults = {0, 1, 2, 1, 1, 1, 3, 1, 1, 1, 1};
        for (int i = 0; i < texts.length; i++) due(Edge.read(t, texts[i]), -10 - faults[i]);
    }

    static void faults() {
        words("The FAULT: the place of the first byte with which none begins so (the end of THE TEXT, if it ends too early).");
        TightHulls t = Edge.rectangle();
        String[] early = {"", "n", "n4;", "d", "d0", "d01", "s", "s0", "s01", "s0123", "s0 ", "s0123 ", "m", "h;", "m1;d01", "h;h;s"};
        for (String text : early) due(Edge.read(t, text), -10 - text.length());
        String[] texts = {"x", "xn", "nx", "n4x", "n44", "n4;x", "dx", "d0x", "d01x", "d01;", "d011x", "d01111", "sx", "s0x", "s0;",
            "s01234", "s01234 1", "s0 x", "s0  ", "s0 12x", "s0 123", "mx", "m;", "m1x", "m123", "hx", "h;;", "h;x;y", "n3;d3"
            + "4 1", "m0;n3;x"};
        int[] faults = {0, 0, 1, 2, 2, 3, 1, 2, 3, 3, 4, 5, 1, 2, 2,
            5, 5, 3, 3, 5, 5, 1, 1, 2, 3, 1, 2, 2, 6, 6};
        for (int i = 0; i < texts.length; i++) due(Edge.read(t, texts[i]), -10 - faults[i]);
        // by a FAULT nothing is done
        Edge.dueGaps(t, 3, 4, 5, 5, 4, 3);
        for (int sign = 0; sign < 128; sign++) {
            boolean begins = "ndsm".indexOf(sign) >= 0;
            TightHulls one = new TightHulls();
            due(Edge.read(one, "" + (char) sign), sign == 'h' ? 1 : begins ? -11 : -10);
            boolean digit = sign >= '0' && sign <= '9';
            due(Edge.read(one, "m" + (char) sign), digit ? 1 : -11);
            due(Edge.read(one, "h" + (char) sign), sign == ';' ? -12 : -11);
            due(Edge.read(one, "s3" + (char) sign + '1'), sign == ' ' ? 1 : digit ? -14 : -12);
        }
    }

    static void done() {
        words("Without it they are done, one behind the other; those that would be refused aren't.");
        TightHulls t = new TightHulls();
        due(Edge.read(t, "d0110;m2"), 2);
        Edge.dueGaps(t, 20, 4, 4, 4, 4, 4);
        due(Edge.read(t, "n4;m2;d0110"), 3);
        Edge.dueGaps(t, 10, 4, 4, 4, 4, 4);
        due(Edge.read(t, "d0110;n3"), 2);
        Edge.dueGaps(t, 2, 2, 2);
        // refused, then not, as the one ahead of it made it
        due(Edge.read(t, "d341;n5;d341;n3;d341;d121"), 4);
        Edge.dueGaps(t, 2, 2, 1);
        due(Edge.read(t, "n2;n6;d0141;d001;d031;s3 1"), 0);
        Edge.dueGaps(t, 2, 2, 1);
    }

    // ---- what is told

    static void asked() {
        words("All that follows is asked, and changes nothing.");
        TightHulls t = Edge.barred();
        Edge.numbers(t, 9, 8, 7);
        Edge.map(t, 1, 2, 0);
        t.event(2, 0);
        due(t.of(0, 2, 1), 2);
        due(t.after(0), 1);
        due(t.fits(0, 2, 0), 3);
        due(t.told(8), 7);
        due(t.looked(), NOT_ANY);
        Edge.dueGaps(t, 1, 5, 1);
        Edge.dueNumbers(t, 9, 8, 7);
        Edge.dueMap(t, 1, 2, 0);
        Edge.dueCounts(t, 0, 1, 0, 0);
    }

    static void shortened() {
        words("SHORTENED: each DISTANCE becomes the least that a way from the one POINT to the other one comes to, DISTANCES of its steps being added up.");
        // one step, two, three, four
        TightHulls t = Edge.with(5, 1, 40, 40, 40, 1, 40, 40, 1, 40, 1);
        int[] line = {1, 2, 3, 4, 1, 2, 3, 1, 2, 1};
        dueShort(t, line);
        due(t.shorten(), 6);
        Edge.dueGaps(t, line);
        // the way passes POINTS in any order: 0 3 1 4 2
        TightHulls u = Edge.with(5, 40, 40, 2, 40, 40, 3, 5, 40, 4, 40);
        int[] other = {5, 14, 2, 10, 9, 3, 5, 12, 4, 8};
        dueShort(u, other);
        due(u.shorten(), 6);
        Edge.dueGaps(u, other);
        // as long as the way, one more, one less
        dueShort(Edge.with(3, 1, 2, 1), 1, 2, 1);
        dueShort(Edge.with(3, 1, 3, 1), 1, 2, 1);
        dueShort(Edge.with(3, 1, 1, 1), 1, 1, 1);
        dueShort(Edge.with(3, 0, 40, 0), 0, 0, 0);
        dueShort(Edge.with(3, 40, 40, 40), 40, 40, 40);
        due(Edge.with(3, 1, 2, 1).shorten(), 0);
        due(Edge.with(3, 1, 3, 1).shorten(), 1);
    }

    static void dueShort(TightHulls t, int... gaps) {
        int i = 0;
        for (int x = 0; x < t.told(0); x++) {
            due(t.of(x, x, 1), 0);
            for (int y = x + 1; y < t.told(0); y++) {
                due(t.of(x, y, 1), gaps[i]);
                due(t.of(y, x, 1), gaps[i++]);
            }
        }
    }

    static void byHand() {
        words("THE FUNCTION TOLD BY HAND: a number IN HALVES for each POINT (0 .. 160; 0 at first): whether it KEEPS; is LEAST; its DEPTH (-5: it isn't LEAST);");
        for (int n = 3; n <= 5; n++) {
            TightHulls t = new TightHulls();
            if (n != 4) t.points(n);
            for (int p = 0; p < n; p++) {
                due(t.functionOf(p), 0);
                due(t.function(p, 160), 0);
                due(t.function(p, 161), BAD);
                due(t.function(p, -1), BAD);
                due(t.functionOf(p), 160);
                due(t.function(p, 0), 160);
                for (int v : FAR) due(t.function(p, v), BAD);
                due(t.functionOf(p), 0);
            }
            due(t.functionOf(12), NOT_ANY);
        }
        TightHulls most = Edge.even(3, 40);
        Edge.numbers(most, 80, 0, 80);
        due(most.functionOf(10), 1);
        due(most.functionOf(11), 1);
        due(most.functionOf(12), 0);
        most.function(2, 81);
        due(most.functionOf(10), 1);
        due(most.functionOf(11), 0);
        due(most.functionOf(12), NOT_ANY);
        most.function(2, 79);
        due(most.functionOf(10), 0);
        due(most.functionOf(12), NOT_ANY);
    }

    static void madeLeast() {
        words("MADE LEAST: POINT by POINT from 0 on, each number becomes the greatest of 0 and, for each other POINT, twice their DISTANCE less the number of that one as it is by then.");
        // 0, 1 more than 0, 1 less
        int[] thirds = {9, 10, 11};
        int[] firsts = {1, 0, 0};
        for (int i = 0; i < 3; i++) {
            TightHulls t = Edge.even(3, 5);
            Edge.numbers(t, 77, 10, thirds[i]);
            due(t.least(0, 0), i == 1 ? 1 : 2);
            due(t.functionOf(0), firsts[i]);
        }
        // from 0 on, as they are by then
        TightHulls up = Edge.with(3, 3, 4, 5);
        Edge.numbers(up, 160, 1, 2);
        due(up.least(0, 0), 2);
        Edge.dueNumbers(up, 6, 8, 2);
        Edge.numbers(up, 0, 100, 100);
        due(up.least(0, 0), 2);
        Edge.dueNumbers(up, 0, 6, 8);
        // each other POINT can be the one that asks for most
        for (int n = 3; n <= 5; n++) {
            for (int p = 0; p < n; p++) for (int q = 0; q < n; q++) {
                if (p == q) continue;
                TightHulls t = Edge.even(n, 0);
                t.set(p, q, 40);
                if (q < p) t.function(p, 79);
                due(t.least(0, 0), 1);
                due(t.functionOf(Math.min(p, q)), q < p ? 1 : 80);
                due(t.functionOf(Math.max(p, q)), q < p ? 79 : 0);
            }
        }
        TightHulls far = Edge.even(5, 40);
        due(far.least(0, 0), 4);
        Edge.dueNumbers(far, 80, 80, 80, 80, 0);
        Edge.numbers(far, 160, 160, 160, 160, 160);
        due(far.least(0, 0), 5);
        Edge.dueNumbers(far, 0, 80, 80, 80, 80);
    }

    static void middles() {
        words("MIDDLE of three POINTS IN HALVES: of the first one, its DISTANCES to the other two, together, less theirs from one another.");
        TightHulls t = Edge.with(3, 3, 4, 5);
        due(t.middle(0, 1, 2), 2);
        due(t.middle(0, 2, 1), 2);
        due(t.middle(1, 0, 2), 4);
        due(t.middle(2, 0, 1), 6);
        due(t.middle(2, 2, 2), 0);
        due(t.middle(0, 2, 2), 8);
        due(t.middle(0, 0, 2), 0);
        due(t.middle(0, 2, 0), 0);
        due(Edge.barred().middle(1, 0, 2), -3);
        due(Edge.with(3, 0, 40, 0).middle(1, 0, 2), -40);
        due(Edge.with(3, 40, 40, 0).middle(0, 1, 2), 80);
    }

    static void figures() {
        words("SPAN: the greatest DISTANCE; GIRTH: all DISTANCES of twos, together; USUAL: the DISTANCE that most twos have, of several the least.");
        for (int n = 3; n <= 5; n++) {
            for (int x = 0; x < n; x++) for (int y = x + 1; y < n; y++) {
                TightHulls t = Edge.even(n, 0);
                due(t.told(5), 0);
                due(t.told(6), 0);
                t.set(x, y, 40);
                due(t.told(5), 40);
                due(t.told(6), 40);
                due(t.told(7), 0);
            }
            TightHulls most = Edge.even(n, 40);
            due(most.told(5), 40);
            due(most.told(6), 20 * n * (n - 1));
            due(most.told(7), 40);
        }
        due(Edge.with(3, 7, 5, 6).told(7), 5);
        due(Edge.with(3, 40, 39, 38).told(7), 38);
        due(Edge.with(3, 5, 5, 0).told(7), 5);
        due(Edge.with(4, 9, 9, 1, 1, 40, 40).told(7), 1);
        due(Edge.with(4, 9, 9, 9, 1, 1, 0).told(7), 9);
        due(Edge.with(4, 40, 40, 40, 39, 39, 39).told(7), 39);
        words("ROUND: of all ways through all POINTS, each once, and back, the least that one comes to.");
        due(Edge.with(3, 3, 4, 5).told(8), 12);
        due(Edge.even(3, 0).told(8), 0);
        due(Edge.even(5, 40).told(8), 200);
        // 0 1 2 3, 0 1 3 2, 0 2 1 3 are all there are
        due(Edge.with(4, 1, 9, 1, 1, 9, 1).told(8), 4);
        due(Edge.with(4, 1, 1, 9, 9, 1, 1).told(8), 4);
        due(Edge.with(4, 9, 1, 1, 1, 1, 9).told(8), 4);
        due(Edge.with(4, 9, 9, 1, 1, 1, 1).told(8), 12);
        due(Edge.pentagon().told(8), 10);
        // not by way of 0 again, though that were nearer
        due(Edge.with(4, 1, 1, 1, 40, 40, 40).told(8), 82);
    }

    static void maps() {
        words("A MAP told by hand: for each POINT a POINT (itself at first): it KEEPS DISTANCES, if of any two POINTS DISTANCE of what they become is theirs; it SHRINKS, if it is no more than theirs.");
        for (int n = 3; n <= 5; n++) {
            TightHulls t = new TightHulls();
            if (n != 4) t.points(n);
            for (int p = 0; p < n; p++) due(t.mapOf(p), p);
            due(t.mapOf(10), 1);
            due(t.mapOf(11), 1);
            // of each two alone
            for (int x = 0; x < n; x++) for (int y = 0; y < n; y++) if (x != y) mapOfTwo(n, x, y);
        }
        TightHulls r = Edge.rectangle();
        Edge.map(r, 1, 0, 3, 2);
        due(r.mapOf(10), 1);
        due(r.mapOf(11), 1);
        Edge.map(r, 0, 2, 1, 3);
        due(r.mapOf(10), 0);
        due(r.mapOf(11), 0);
        Edge.map(r, 2, 2, 2, 2);
        due(r.mapOf(10), 0);
        due(r.mapOf(11), 1);
        TightHulls none = Edge.even(3, 0);
        Edge.map(none, 2, 2, 2);
        due(none.mapOf(10), 1);
        due(none.mapOf(11), 1);
        words("KEEPERS: how many MAPS of unlike POINTS to unlike POINTS KEEP.");
        due(Edge.with(3, 3, 4, 5).told(9), 1);
        due(Edge.with(3, 3, 4, 4).told(9), 2);
        due(Edge.even(3, 7).told(9), 6);
        due(Edge.even(4, 40).told(9), 24);
        due(Edge.even(5, 0).told(9), 120);
        due(Edge.rectangle().told(9), 4);
        due(Edge.pentagon().told(9), 10);
        due(Edge.barred().told(9), 2);
    }

    /** y becomes the third POINT, from which it is 0: so it goes by what x and y are apart, and all else stays. */
    static void mapOfTwo(int n, int x, int y) {
        TightHulls t = Edge.even(n, 9);
        int third = x != 0 && y != 0 ? 0 : x != 1 && y != 1 ? 1 : 2;
        t.set(y, third, 0);
        t.map(y, third);
        int[] keeps = {0, 1, 0};
        int[] shrinks = {0, 1, 1};
        for (int i = 0; i < 3; i++) {
            t.set(x, y, 8 + i);
            due(t.mapOf(10), keeps[i]);
            due(t.mapOf(11), shrinks[i]);
        }
    }

    // ---- seen, odds, events, books

    static void seen() {
        words("SEEN told by hand: a SPLIT, its WEIGHT IN HALVES (0 .. 99; 4 rows at most).");
        TightHulls t = new TightHulls();
        due(t.count(0), 0);
        due(t.see(2, -1), BAD);
        due(t.see(2, 100), BAD);
        for (int v : FAR) due(t.see(2, v), BAD);
        due(t.see(2, 0), 1);
        due(t.see(2, 99), 2);
        due(t.see(0, 1), NONE);
        due(t.see(1, 1), NONE);
        due(t.see(15, 1), NONE);
        due(t.see(16, 1), NONE);
        due(t.see(14, 1), 3);
        due(t.see(12, 1), 4);
        due(t.see(12, 1), FULL);
        due(t.count(0), 4);
    }

    static void fits() {
        words("FITS of two POINTS: how many DISTANCES 0 .. 40 there are by which, were each theirs alone, it would be A TABLE, and all of SEEN would be so; the least (-5: none).");
        dueFits(Edge.with(3, 7, 40, 40), 41, 0);
        dueFits(Edge.with(3, 7, 0, 40), 1, 40);
        dueFits(Edge.with(3, 7, 0, 0), 1, 0);
        dueFits(Edge.with(3, 7, 0, 39), 1, 39);
        dueFits(Edge.with(3, 7, 1, 40), 2, 39);
        dueFits(Edge.with(3, 7, 3, 4), 7, 1);
        dueFits(Edge.with(3, 40, 3, 4), 7, 1);
        // two others are barred whatever it is
        dueFits(Edge.with(4, 9, 1, 40, 1, 1, 1), 0, NOT_ANY);
        // SEEN: that 1 and 2 are set apart from 0 by 4
        TightHulls t = Edge.with(3, 7, 3, 4);
        t.see(6, 4);
        dueFits(t, 1, 5);
        t.see(6, 4);
        t.see(2, 6);
        dueFits(t, 1, 5);
        t.see(2, 5);
        dueFits(t, 0, NOT_ANY);
        // by 0: it need not COUNT
        TightHulls zero = Edge.with(3, 7, 3, 4);
        zero.see(6, 0);
        dueFits(zero, 1, 1);
        due(zero.of(0, 1, 0), 7);
        due(zero.fits(1, 0, 0), 1);
        due(zero.fits(1, 0, 1), 1);
    }

    static void dueFits(TightHulls t, int many, int least) {
        due(t.fits(0, 1, 0), many);
        due(t.fits(0, 1, 1), least);
    }

    static void oddsAndMean() {
        words("ODDS of two POINTS: SPLITS that COUNT being alike likely, how likely one parts them: a fraction in lowest terms (NO: none COUNTS).");
        TightHulls none = Edge.even(4, 0);
        due(none.odds(0, 1, 0), NO);
        due(none.odds(0, 1, 1), NO);
        TightHulls one = Edge.with(3, 0, 7, 7);
        due(one.told(3), 1);
        due(one.odds(0, 1, 0), 0);
        due(one.odds(0, 1, 1), 1);
        due(one.odds(0, 2, 0), 1);
        due(one.odds(2, 0, 1), 1);
        TightHulls six = Edge.rectangle();
        due(six.odds(0, 1, 0), 1);
        due(six.odds(0, 1, 1), 2);
        due(six.odds(0, 3, 0), 2);
        due(six.odds(0, 3, 1), 3);
        TightHulls five = Edge.even(5, 2);
        due(five.odds(3, 4, 0), 2);
        due(five.odds(3, 4, 1), 5);
        words("MEAN: GIRTH by how many twos there are: a fraction in lowest terms.");
        due(Edge.even(3, 0).mean(0), 0);
        due(Edge.even(3, 0).mean(1), 1);
        due(Edge.even(5, 40).mean(0), 40);
        due(Edge.even(5, 40).mean(1), 1);
        due(Edge.with(3, 2, 2, 3).mean(0), 7);
        due(Edge.with(3, 2, 2, 3).mean(1), 3);
        due(Edge.with(4, 1, 2, 0, 0, 0, 0).mean(0), 1);
        due(Edge.with(4, 1, 2, 0, 0, 0, 0).mean(1), 2);
        due(Edge.with(5, 1, 2, 3, 0, 0, 0, 0, 0, 0, 2).mean(0), 4);
        due(Edge.with(5, 1, 2, 3, 0, 0, 0, 0, 0, 0, 2).mean(1), 5);
    }

    static void events() {
        words("EVENTS told by hand: what happens (0 DISTANCES of POINT n to all others are 1 more, 40 at most; 1 all DISTANCES are n less, 0 at least (n 0 .. 9); 2 all are SHORTENED (n 0); POINTS that aren't there by then: nothing; 8 rows at most):");
        // 40 1 39 hold, 41 1 39 would be barred; from 39 on it is 1 more
        dueAfter(with(Edge.with(3, 40, 0, 39), 0, 0), 1, 2, 1);
        dueAfter(with(Edge.with(3, 39, 0, 39), 0, 0), 1, 2, 1);
        dueAfter(with(Edge.with(3, 38, 0, 39), 0, 0), 1, 3, 1);
        // all others of each POINT, and none else: two more apart by a line of their own
        for (int n = 3; n <= 5; n++) {
            for (int p = 0; p < n; p++) {
                TightHulls t = Edge.even(n, 0);
                t.event(0, p);
                dueAfter(t, 1, 1, 1);
                t.event(0, p);
                dueAfter(t, 1, 1, 1);
                t.event(0, (p + 1) % n);
                dueAfter(t, 1, 2, 1);
            }
        }
        // n less, 0 at least: with less than nothing it would be barred
        dueAfter(with(Edge.even(3, 8), 1, 9), 1, 0, 1);
        dueAfter(with(Edge.even(3, 9), 1, 9), 1, 0, 1);
        dueAfter(with(Edge.even(3, 10), 1, 9), 1, 3, 1);
        dueAfter(with(Edge.with(3, 1, 2, 1), 1, 0), 1, 2, 1);
        dueAfter(with(Edge.with(3, 1, 2, 1), 1, 1), 0, 0, 0);
        dueAfter(with(Edge.with(3, 1, 2, 1), 1, 2), 1, 0, 1);
        dueAfter(with(Edge.barred(), 2, 0), 1, 2, 1);
        dueAfter(with(Edge.rectangle(), 2, 0), 1, 6, 0);
        // what is taken
        TightHulls t = new TightHulls();
        due(t.event(1, -1), BAD);
        due(t.event(1, 10), BAD);
        due(t.event(2, -1), BAD);
        due(t.event(2, 1), BAD);
        due(t.event(0, -1), NONE);
        due(t.event(0, 4), NONE);
        due(t.event(1, 0), 1);
        due(t.event(1, 9), 2);
        due(t.event(2, 0), 3);
        due(t.event(0, 0), 4);
        for (int many = 5; many <= 8; many++) due(t.event(0, 3), many);
        due(t.event(0, 3), FULL);
        due(t.count(1), 8);
        // POINTS that aren't there by then
        TightHulls gone = Edge.even(5, 0);
        gone.event(0, 4);
        gone.event(0, 3);
        due(gone.after(1), 2);
        gone.points(4);
        for (int x = 0; x < 4; x++) for (int y = x + 1; y < 4; y++) gone.set(x, y, 0);
        due(gone.after(1), 1);
        gone.points(3);
        for (int x = 0; x < 3; x++) for (int y = x + 1; y < 3; y++) gone.set(x, y, 0);
        due(gone.after(1), 0);
        due(gone.count(1), 2);
    }

    static TightHulls with(TightHulls t, int what, int n) {
        t.event(what, n);
        return t;
    }

    static void dueAfter(TightHulls t, int table, int count, int tree) {
        due(t.after(0), table);
        due(t.after(1), count);
        due(t.after(2), tree);
    }

    static void after() {
        words("AFTER, behind all of it: whether it is A TABLE (1, 0); how many SPLITS COUNT; whether IT IS A TREE (1, 0).");
        // without EVENTS as it is
        dueAfter(Edge.rectangle(), 1, 6, 0);
        dueAfter(Edge.barred(), 0, 2, 0);
        dueAfter(Edge.even(3, 0), 1, 0, 1);
        // all eight, one behind the other
        TightHulls t = Edge.even(3, 0);
        for (int i = 0; i < 7; i++) t.event(0, i % 3);
        dueAfter(t, 1, 3, 1);
        t.event(1, 9);
        dueAfter(t, 1, 0, 1);
        TightHulls order = Edge.even(3, 0);
        order.event(1, 9);
        order.event(0, 2);
        dueAfter(order, 1, 1, 1);
        TightHulls other = Edge.even(3, 0);
        other.event(0, 2);
        other.event(1, 9);
        dueAfter(other, 1, 0, 1);
        Edge.dueGaps(other, 0, 0, 0);
    }

    static void books() {
        words("A BOOK told by hand: twos of POINTS, DISTANCES (8 rows at most):");
        TightHulls t = Edge.rectangle();
        due(t.book(0, 1, -1), BAD);
        due(t.book(0, 1, 41), BAD);
        due(t.book(1, 1, 0), NONE);
        due(t.book(0, 1, 0), 1);
        due(t.book(0, 1, 40), 2);
        for (int many = 3; many <= 8; many++) due(t.book(3, 0, 5), many);
        due(t.book(3, 0, 5), FULL);
        due(t.count(2), 8);
        words("LOOKED at: the number (from 0) of the first of these rows of which a POINT isn't there, or whose DISTANCE is otherwise now (-5: none).");
        TightHulls u = Edge.rectangle();
        due(u.looked(), NOT_ANY);
        for (int row = 0; row < 8; row++) due(u.book(row % 2 * 3, 1 + row % 2, row % 2 == 0 ? 3 : 3), row + 1);
        due(u.looked(), NOT_ANY);
        u.set(0, 1, 4);
        due(u.looked(), 0);
        u.set(0, 1, 2);
        due(u.looked(), 0);
        u.set(0, 1, 3);
        u.set(2, 3, 4);
        due(u.looked(), 1);
        // the last row, by one more and one less; one POINT that isn't there, and the other one
        TightHulls last = Edge.even(5, 9);
        for (int row = 0; row < 7; row++) last.book(0, 1, 9);
        last.book(4, 2, 9);
        due(last.looked(), NOT_ANY);
        last.set(4, 2, 10);
        due(last.looked(), 7);
        last.set(4, 2, 8);
        due(last.looked(), 7);
        last.points(4);
        due(last.looked(), 0);
        TightHulls gone = new TightHulls();
        gone.points(5);
        gone.book(2, 1, 2);
        gone.book(3, 1, 2);
        gone.book(1, 4, 2);
        due(gone.looked(), NOT_ANY);
        gone.points(4);
        due(gone.looked(), 2);
        gone.points(3);
        due(gone.looked(), 1);
        TightHulls zero = Edge.even(4, 0);
        zero.book(3, 1, 0);
        due(zero.looked(), NOT_ANY);
        zero.points(3);
        due(zero.looked(), 0);
    }

    static void image() {
        words("THE IMAGE: n, DISTANCES, THE FUNCTION, the MAP, SEEN, EVENTS, the BOOK.");
        TightHulls t = Edge.pentagon();
        Edge.numbers(t, 1, 2, 3, 4, 160);
        Edge.map(t, 4, 3, 2, 1, 0);
        t.see(30, 99);
        t.event(0, 4);
        t.event(1, 9);
        t.book(4, 3, 2);
        t.book(4, 3, 3);
        t.book(4, 3, 2);
        due(t.image(), 25);
        t.points(3);
        t.see(-1, 0);
        t.event(-1, 0);
        t.book(-1, 0, 0);
        due(t.undo(), 25);
        due(t.told(0), 5);
        Edge.dueGaps(t, 2, 3, 3, 2, 2, 3, 3, 2, 3, 2);
        Edge.dueNumbers(t, 1, 2, 3, 4, 160);
        Edge.dueMap(t, 4, 3, 2, 1, 0);
        Edge.dueCounts(t, 1, 2, 3, 0);
        due(t.looked(), 1);
        due(t.fits(0, 1, 0), 0);
    }

    // ---- tapes

    static void tapes() {
        words("TAPES 0 .. 5 hold nothing (at first), or a row of 0 bytes, 1 shorts, 2 ints, 3 longs, 4 booleans (items 0, 1).");
        TightHulls t = new TightHulls();
        for (int tape = 0; tape <= 5; tape++) {
            due(t.peek(tape, 0), NO);
            due(t.item(tape, 0, 1), Edge.NOTHING);
            due(t.judge(tape, 0), 100);
            due(t.tape(tape, 0, 1), 1);
            due(t.peek(tape, 0), 0);
            due(t.tape(tape, -1, 1), 1);
            due(t.peek(tape, 0), NO);
        }
        due(t.tape(-1, 0, 1), NONE);
        due(t.tape(6, 0, 1), NONE);
        // the last number that a sort has, and the first that it hasn't
        long[][] ends = {{127, 128, -128, -129}, {32767, 32768, -32768, -32769}, {MAX, MAX + 1L, MIN, MIN - 1L}};
        for (int sort = 0; sort < 3; sort++) {
            t.tape(sort, sort, 4);
            for (int i = 0; i < 4; i++) due(t.item(sort, i, ends[sort][i]), 1);
            Edge.dueRow(t, sort, ends[sort][0], ends[sort][2], ends[sort][2], ends[sort][0]);
        }
        Edge.row(t, 3, 3, Long.MAX_VALUE, Long.MIN_VALUE + 1, 0, -1);
        Edge.dueRow(t, 3, Long.MAX_VALUE, Long.MIN_VALUE + 1, 0, -1);
        Edge.row(t, 4, 4, 0, 1, 2, -1, 1L << 32, Long.MIN_VALUE);
        Edge.dueRow(t, 4, 0, 1, 1, 1, 1, 1);
        due(t.tape(5, 5, 1), BAD);
        due(t.tape(5, -2, 1), BAD);
    }

    static void judged() {
        words("DISTANCES told by a row of ints, from a place on (of 0 and 1, 0 and 2, .., 1 and 2, ..), are JUDGED: 10 times the lesser POINT, and the other one, of the first that is otherwise; -5: none; 100 and how many were looked at, if the row ends ahead of that (or the place is below 0, or the TAPE holds nothing).");
        int[][] all = {{1, 2, 3}, {1, 2, 3, 4, 5, 6}, {1, 2, 3, 4, 5, 6, 7, 8, 9, 10}};
        for (int[] gaps : all) {
            TightHulls t = Edge.with(gaps.length == 3 ? 3 : gaps.length == 6 ? 4 : 5, gaps);
            int n = t.told(0);
            for (int length = 0; length <= gaps.length + 1; length++) {
                t.tape(2, 2, length);
                for (int i = 0; i < Math.min(length, gaps.length); i++) t.item(2, i, gaps[i]);
                due(t.judge(2, 0), length < gaps.length ? 100 + length : NOT_ANY);
            }
            int i = 0;
            for (int x = 0; x < n; x++) for (int y = x + 1; y < n; y++) {
                due(t.item(2, i, gaps[i] + 1), 1);
                due(t.judge(2, 0), 10 * x + y);
                t.item(2, i, gaps[i] - 1);
                due(t.judge(2, 0), 10 * x + y);
                t.item(2, i, gaps[i] + (1L << 32));
                due(t.judge(2, 0), NOT_ANY);
                t.item(2, i, gaps[i]);
                i++;
            }
        }
        // of several the first; the row is as long as it is, wherever it begins
        TightHulls t = Edge.with(3, 1, 2, 3);
        Edge.row(t, 5, 2, 9, 1, 2, 3);
        due(t.judge(5, 0), 1);
        due(t.judge(5, 1), NOT_ANY);
        due(t.judge(5, 2), 1);
        due(t.judge(5, 3), 1);
        due(t.judge(5, 4), 100);
        due(t.judge(5, 5), 100);
        due(t.judge(5, -1), 100);
        for (int place : FAR) due(t.judge(5, place), 100);
        Edge.row(t, 5, 2, 1, 1, 1);
        due(t.judge(5, 0), 2);
        due(t.judge(5, 1), 2);
        due(t.judge(5, 2), 101);
        due(t.judge(4, 0), 100);
        due(t.judge(4, -1), 100);
        t.tape(5, 2, 60);
        t.item(5, 58, 1);
        t.item(5, 59, 2);
        due(t.judge(5, 58), 102);
        due(t.judge(5, 59), 1);
        due(t.judge(5, 60), 100);
    }

    static void hostRefusals() {
        words("The host's refusals: NOTHING (-11): nothing is there; CAST (-12): another sort; PLACE (-13): no such place; SIZE (-14): a size below 0.");
        TightHulls t = new TightHulls();
        due(t.item(0, 0, 0), -11);
        due(t.shift(0, 0, 0, 0, 0), -11);
        t.tape(0, 0, 1);
        t.tape(1, 1, 1);
        due(t.shift(0, 0, 1, 0, 1), -12);
        due(t.judge(0, 0), -12);
        due(t.item(0, 1, 0), -13);
        due(t.shift(0, 1, 0, 0, 1), -13);
        due(t.tape(0, 0, -1), -14);
        due(t.tape(0, 0, 0), 1);
    }

    // ---- answers, in doubt, constants

    static void answers() {
        words("Answers: NONE (-1) no such number, no two unlike POINTS, no SPLIT (bits without POINT 0, one at least, of POINTS that are there); BAD (-2) a number is not as told; STATE (-3) as told; FULL (-4); the first that a call's words name.");
        TightHulls t = new TightHulls();
        due(t.told(10), -1);
        due(t.set(1, 1, 1), -1);
        due(t.set(3, 4, 1), -1);
        due(t.weight(0), -1);
        due(t.weight(3), -1);
        due(t.weight(16), -1);
        due(t.weight(14), 2);
        due(t.set(0, 1, 41), -2);
        due(t.count(4), -2);
        due(t.undo(), -3);
        due(Edge.barred().corners(), -3);
        for (int i = 0; i < 100; i++) t.feed('h');
        due(t.feed('h'), -4);
        // two would do: the first that is named
        due(t.set(1, 1, 41), -1);
        due(t.function(4, 161), -1);
        due(t.feed(128), -2);
        due(Edge.barred().least(1, 99), -3);
        due(Edge.barred().least(2, 99), -1);
        due(Edge.barred().at(99, 99), -3);
        due(t.tape(6, 9, 99), -1);
        Edge.noEdge("What is answered so changes nothing; what is asked changes nothing.");
    }

    static void inDoubt() {
        words("In doubt. BARRED goes by x, then y, then z.");
        due(Edge.with(4, 3, 1, 9, 1, 1, 8).told(2), 13);
        due(Edge.with(3, 9, 1, 1).told(2), 21);
        due(Edge.with(3, 1, 9, 1).told(2), 12);
        due(Edge.with(3, 1, 1, 9).told(2), 102);
        words("One POINT by itself can be the two of which the numbers are told.");
        due(Edge.rectangle().tight(0, 0, 0), 1);
        due(Edge.rectangle().tight(0, 1, 1), 0);
        words("Two POINTS with DISTANCE 0 have one EYE.");
        TightHulls t = Edge.with(3, 0, 7, 7);
        due(t.eye(0), 0);
        due(t.eye(1), 0);
        due(t.eye(2), 1);
        due(t.corners(), 2);
        t.set(0, 1, 1);
        due(t.eye(0), 0);
        due(t.eye(1), 2);
        words("A WEIGHT below 0 is told as it is, and a SPLIT whose WEIGHT is SEEN need not COUNT.");
        TightHulls zero = Edge.with(3, 1, 2, 1);
        due(zero.weight(2), 0);
        due(zero.see(2, 0), 1);
        due(zero.fits(0, 2, 0), 1);
        due(zero.fits(0, 2, 1), 2);
        words("Of three POINTS A TABLE is A TREE.");
        due(Edge.with(3, 1, 2, 1).told(4), 1);
        due(Edge.with(3, 1, 3, 1).told(4), 0);
        due(Edge.even(3, 40).told(4), 1);
        words("MADE LEAST does not ask what a number was.");
        TightHulls was = Edge.even(3, 2);
        Edge.numbers(was, 0, 1, 1);
        was.least(0, 0);
        Edge.dueNumbers(was, 3, 3, 1);
        Edge.numbers(was, 160, 1, 1);
        was.least(0, 0);
        Edge.dueNumbers(was, 3, 3, 1);
        words("ROUND and REST go by DISTANCES as they are.");
        due(Edge.barred().told(8), 7);
        due(Edge.barred().of(0, 2, 2), 6);
        words("The MAP that leaves all as they are counts among KEEPERS.");
        due(Edge.with(4, 1, 2, 3, 4, 5, 6).told(9), 1);
        words("points() leaves SEEN, EVENTS and the BOOK.");
        TightHulls left = new TightHulls();
        left.see(2, 2);
        left.event(1, 2);
        left.event(0, 0);
        left.book(0, 1, 2);
        left.book(0, 3, 2);
        left.book(0, 2, 1);
        for (int n = 3; n <= 5; n++) {
            left.points(n);
            Edge.dueCounts(left, 1, 2, 3, 0);
            due(left.looked(), n == 3 ? 1 : 2);
            due(left.after(1), 1);
            due(left.fits(0, 1, 0), n == 3 ? 1 : 3);
        }
    }

    static void inDoubtOfSetups() {
        TightHulls t = Edge.even(3, 5);
        words("A figure told twice is one;");
        due(Edge.read(t, "s00 1"), 1);
        Edge.dueGaps(t, 6, 6, 5);
        due(Edge.read(t, "s0110 1"), 1);
        Edge.dueGaps(t, 6, 7, 6);
        due(Edge.read(t, "s2222 1"), 1);
        Edge.dueGaps(t, 6, 8, 7);
        words("a CLAUSE by which nothing changes is done;");
        due(Edge.read(t, "m1"), 1);
        due(Edge.read(t, "h"), 1);
        due(Edge.read(t, "s0 0"), 1);
        due(Edge.read(t, "s012 5"), 1);
        due(Edge.read(t, "d016"), 1);
        due(Edge.read(t, "m1;h;s0 0;s012 5;d016"), 5);
        Edge.dueGaps(t, 6, 8, 7);
        due(Edge.read(t, "n3;n3"), 2);
        words("m by 0 makes all 0, and none comes above 40;");
        due(Edge.read(t, "d0140;d0239;d121;m1"), 4);
        Edge.dueGaps(t, 40, 39, 1);
        due(Edge.read(t, "m99"), 1);
        Edge.dueGaps(t, 40, 40, 40);
        due(Edge.read(t, "m0"), 1);
        Edge.dueGaps(t, 0, 0, 0);
        due(Edge.read(t, "m99"), 1);
        Edge.dueGaps(t, 0, 0, 0);
        due(Edge.read(t, "d011;m00"), 2);
        Edge.dueGaps(t, 0, 0, 0);
        words("a NUMBER of d above 40 is refused.");
        due(Edge.read(t, "d0140"), 1);
        due(Edge.read(t, "d0241"), 0);
        due(Edge.read(t, "d1299"), 0);
        Edge.dueGaps(t, 40, 0, 0);
        words("A thirteenth CLAUSE is a FAULT at the ; ahead of it.");
        String twelve = "h;h;h;h;h;h;h;h;h;h;h;h";
        due(Edge.read(t, twelve), 12);
        due(Edge.read(t, twelve + ";"), -33);
        due(Edge.read(t, twelve + ";h"), -33);
        due(Edge.read(t, twelve + ";x"), -33);
        due(Edge.read(t, twelve + "x"), -33);
        TightHulls five = Edge.even(3, 5);
        due(Edge.read(five, "m00;" + twelve.substring(2) + ";n4"), -35);
        Edge.dueGaps(five, 5, 5, 5);
        due(Edge.read(five, "m00;" + twelve.substring(2)), 12);
        Edge.dueGaps(five, 0, 0, 0);
    }

    static void constants() {
        words("The constants: `NO = Long.MIN_VALUE`: There is no such number.");
        due(TightHulls.NO, Long.MIN_VALUE);
        due(TightHulls.NONE, -1);
        due(TightHulls.BAD, -2);
        due(TightHulls.STATE, -3);
        due(TightHulls.FULL, -4);
        String[] calls = {"`points`, `set`, `shorten`, `function`, `least`, `map`, `feed`, `read` the interface says: ---- distances.",
            "`of`, `told`, `functionOf`, `mapOf`, `middle` the interface says: ---- what is told.",
            "`corners`, `at`, `corner`, `tight`, `two`, `eye` the interface says: ---- the hull.",
            "`weight`, `split` the interface says: ---- splits.",
            "`see`, `fits`, `odds`, `mean` the interface says: ---- seen, odds.",
            "`event`, `after`, `book`, `looked` the interface says: ---- events, books.",
            "`judge`, `image`, `undo`, `count`, `tape`, `item`, `peek`, `shift` the interface says: ---- judging, the image, tapes."};
        for (String call : calls) Edge.noEdge("Ahead of the calls " + call);
    }
}
