/** For each promise of the document: ordinary inputs, the edges it names, wrong inputs. */
public final class PromisesTest {
    static final long NO = Long.MIN_VALUE;
    static final int MIN = Integer.MIN_VALUE, MAX = Integer.MAX_VALUE;
    static int wrong = 0, asked = 0;
    static int promise = 0;

    static void due(String call, long got, long want) {
        asked++;
        if (got != want) {
            wrong++;
            System.out.println("promise " + promise + ": " + call + " answered " + got + ", due is " + want);
        }
    }

    public static void main(String[] args) {
        constants();
        promise = 1; newObject();
        promise = 2; points();
        promise = 3; set();
        promise = 4; shorten();
        promise = 5; function();
        promise = 6; least();
        promise = 7; map();
        promise = 8; feed();
        promise = 9; read(); readFaults(); readRefusals();
        promise = 10; of();
        promise = 11; told();
        promise = 12; functionOf(); depths();
        promise = 13; mapOf();
        promise = 14; middle();
        promise = 15; corners();
        promise = 16; at();
        promise = 17; corner();
        promise = 18; tight();
        promise = 19; two();
        promise = 20; eye();
        promise = 21; weight();
        promise = 22; split();
        promise = 23; see();
        promise = 24; fits();
        promise = 25; odds();
        promise = 26; mean();
        promise = 27; event();
        promise = 28; after();
        promise = 29; book();
        promise = 30; looked();
        promise = 31; judge();
        promise = 32; image();
        promise = 33; undo();
        promise = 34; count();
        promise = 35; tape();
        promise = 36; item();
        promise = 37; peek();
        promise = 38; shift();
        System.out.println(asked + " answers asked");
        System.out.println(wrong == 0 ? "all answers are as due" : wrong + " answers are not as due");
        if (wrong != 0) System.exit(1);
    }

    /** An object with so many points and these distances: of 0 and 1, 0 and 2, .., 1 and 2, .. */
    static TightHulls with(int n, int... gaps) {
        TightHulls t = new TightHulls();
        t.points(n);
        int i = 0;
        for (int x = 0; x < n; x++) {
            for (int y = x + 1; y < n; y++) t.set(x, y, gaps[i++]);
        }
        return t;
    }

    /** Four points in a rectangle: two ways of two, four, five across. */
    static TightHulls rectangle() { return with(4, 3, 4, 5, 5, 4, 3); }

    /** A tree: 0 and 1 hang together, then 2, then 3 and 4. */
    static TightHulls tree() { return with(5, 4, 5, 6, 7, 7, 8, 9, 5, 6, 3); }

    static TightHulls barred() { return with(3, 1, 5, 1); }

    static void feedAll(TightHulls t, String text) {
        for (int i = 0; i < text.length(); i++) due("feed in " + text, t.feed(text.charAt(i)), i + 1);
    }

    static void reads(TightHulls t, String text, int want) {
        feedAll(t, text);
        due("read() of " + text, t.read(), want);
        due("count(3) after " + text, t.count(3), 0);
    }

    static void gaps(TightHulls t, int... gaps) {
        int i = 0;
        int n = t.told(0);
        due("points there", n * (n - 1) / 2, gaps.length);
        for (int x = 0; x < n; x++) {
            for (int y = x + 1; y < n; y++) {
                due("of(" + x + ", " + y + ", 0)", t.of(x, y, 0), gaps[i]);
                due("of(" + y + ", " + x + ", 0)", t.of(y, x, 0), gaps[i++]);
            }
        }
    }

    static void constants() {
        due("NONE", TightHulls.NONE, -1);
        due("BAD", TightHulls.BAD, -2);
        due("STATE", TightHulls.STATE, -3);
        due("FULL", TightHulls.FULL, -4);
        due("NO", TightHulls.NO, NO);
    }

    static void newObject() {
        TightHulls t = new TightHulls();
        due("told(0)", t.told(0), 4);
        gaps(t, 2, 2, 2, 2, 2, 2);
        for (int p = 0; p < 4; p++) {
            due("functionOf", t.functionOf(p), 0);
            due("mapOf", t.mapOf(p), p);
        }
        for (int w = 0; w < 4; w++) due("count", t.count(w), 0);
        for (int k = 0; k < 6; k++) due("peek", t.peek(k, 0), NO);
        due("undo", t.undo(), -3);
    }

    static void points() {
        TightHulls t = rectangle();
        t.function(1, 9);
        t.map(1, 2);
        t.see(2, 3);
        t.event(2, 0);
        t.book(0, 1, 5);
        due("points(2)", t.points(2), -2);
        due("points(6)", t.points(6), -2);
        due("points(MIN)", t.points(MIN), -2);
        due("points(MAX)", t.points(MAX), -2);
        gaps(t, 3, 4, 5, 5, 4, 3);
        due("functionOf(1)", t.functionOf(1), 9);
        due("points(5)", t.points(5), 4);
        gaps(t, 2, 2, 2, 2, 2, 2, 2, 2, 2, 2);
        for (int p = 0; p < 5; p++) {
            due("functionOf", t.functionOf(p), 0);
            due("mapOf", t.mapOf(p), p);
        }
        due("seen stays", t.count(0), 1);
        due("events stay", t.count(1), 1);
        due("the book stays", t.count(2), 1);
        due("points(3)", t.points(3), 5);
        due("points(3)", t.points(3), 3);
        gaps(t, 2, 2, 2);
        due("of(0, 3, 0)", t.of(0, 3, 0), -1);
    }

    static void set() {
        TightHulls t = new TightHulls();
        due("set(0, 1, 40)", t.set(0, 1, 40), 2);
        due("set(1, 0, 0)", t.set(1, 0, 0), 40);
        due("set(0, 1, 7)", t.set(0, 1, 7), 0);
        due("set(0, 1, 41)", t.set(0, 1, 41), -2);
        due("set(0, 1, -1)", t.set(0, 1, -1), -2);
        due("set(2, 2, 1)", t.set(2, 2, 1), -1);
        due("set(2, 2, 41)", t.set(2, 2, 41), -1);
        due("set(0, 4, 1)", t.set(0, 4, 1), -1);
        due("set(-1, 0, 1)", t.set(-1, 0, 1), -1);
        due("set(MIN, MAX, 1)", t.set(MIN, MAX, 1), -1);
        gaps(t, 7, 2, 2, 2, 2, 2);
    }

    static void shorten() {
        TightHulls t = with(4, 1, 40, 40, 1, 40, 1);
        due("shorten()", t.shorten(), 3);
        gaps(t, 1, 2, 3, 1, 2, 1);
        due("shorten()", t.shorten(), 0);
        TightHulls five = with(5, 40, 40, 40, 1, 1, 40, 40, 1, 40, 1);
        due("shorten()", five.shorten(), 6);
        gaps(five, 4, 3, 2, 1, 1, 2, 3, 1, 2, 1);
        TightHulls none = with(3, 0, 9, 0);
        due("shorten()", none.shorten(), 1);
        gaps(none, 0, 0, 0);
    }

    static void function() {
        TightHulls t = new TightHulls();
        due("function(3, 160)", t.function(3, 160), 0);
        due("function(3, 0)", t.function(3, 0), 160);
        due("function(3, 8)", t.function(3, 8), 0);
        due("function(3, 161)", t.function(3, 161), -2);
        due("function(3, -1)", t.function(3, -1), -2);
        due("function(4, 161)", t.function(4, 161), -1);
        due("function(-1, 0)", t.function(-1, 0), -1);
        due("function(MIN, 0)", t.function(MIN, 0), -1);
        due("functionOf(3)", t.functionOf(3), 8);
    }

    static void least() {
        TightHulls t = rectangle();
        due("least(2, 0)", t.least(2, 0), -1);
        due("least(-1, 0)", t.least(-1, 0), -1);
        due("least(1, 8)", t.least(1, 8), -1);
        due("least(1, -1)", t.least(1, -1), -1);
        due("least(0, 99)", t.least(0, 99), 3);
        // once over is not LEAST yet, twice over is
        int[] once = {10, 10, 6, 0};
        for (int p = 0; p < 4; p++) due("functionOf", t.functionOf(p), once[p]);
        due("functionOf(11)", t.functionOf(11), 0);
        due("least(0, 0)", t.least(0, 0), 1);
        due("functionOf(1)", t.functionOf(1), 8);
        due("functionOf(11)", t.functionOf(11), 1);
        due("least(0, 0)", t.least(0, 0), 0);
        due("least(1, 2)", t.least(1, 2), 4);
        int[] second = {4, 2, 8, 6};
        for (int p = 0; p < 4; p++) due("functionOf", t.functionOf(p), second[p]);
        due("least(1, 2)", t.least(1, 2), 0);
        // each number is made by those ahead of it as they are by then, and does not ask what it was
        TightHulls u = with(3, 3, 4, 5);
        u.function(0, 160);
        u.function(1, 1);
        u.function(2, 2);
        due("least(0, 0)", u.least(0, 0), 2);
        due("functionOf(0)", u.functionOf(0), 6);
        due("functionOf(1)", u.functionOf(1), 8);
        due("functionOf(2)", u.functionOf(2), 2);
        u.function(1, 100);
        u.function(2, 100);
        due("least(0, 0)", u.least(0, 0), 3);
        due("functionOf(0)", u.functionOf(0), 0);
        due("functionOf(1)", u.functionOf(1), 6);
        due("functionOf(2)", u.functionOf(2), 8);
        TightHulls no = barred();
        due("least(1, 0)", no.least(1, 0), -3);
        due("least(1, 99)", no.least(1, 99), -3);
        due("least(2, 0)", no.least(2, 0), -1);
        due("least(0, 0)", no.least(0, 0), 2);
        due("functionOf(0)", no.functionOf(0), 10);
        due("functionOf(1)", no.functionOf(1), 2);
        due("functionOf(2)", no.functionOf(2), 0);
    }

    static void map() {
        TightHulls t = new TightHulls();
        due("map(1, 3)", t.map(1, 3), 1);
        due("map(1, 0)", t.map(1, 0), 3);
        due("map(1, 1)", t.map(1, 1), 0);
        due("map(1, 4)", t.map(1, 4), -1);
        due("map(4, 1)", t.map(4, 1), -1);
        due("map(-1, 0)", t.map(-1, 0), -1);
        due("map(0, -1)", t.map(0, -1), -1);
        due("map(MAX, MIN)", t.map(MAX, MIN), -1);
        due("mapOf(1)", t.mapOf(1), 1);
    }

    static void feed() {
        TightHulls t = new TightHulls();
        due("feed(-1)", t.feed(-1), -2);
        due("feed(128)", t.feed(128), -2);
        due("feed(MIN)", t.feed(MIN), -2);
        due("feed(127)", t.feed(127), 1);
        due("feed(0)", t.feed(0), 2);
        due("read()", t.read(), -10);
        for (int i = 1; i <= 100; i++) due("feed('h' or ';')", t.feed(i % 2 == 1 ? 'h' : ';'), i);
        due("feed(104)", t.feed(104), -4);
        due("feed(128)", t.feed(128), -2);
        due("count(3)", t.count(3), 100);
        due("read()", t.read(), -10 - 23);
        due("feed(104)", t.feed('h'), 1);
    }

    static void read() {
        TightHulls t = new TightHulls();
        reads(t, "n5", 1);
        gaps(t, 2, 2, 2, 2, 2, 2, 2, 2, 2, 2);
        reads(t, "m0;s0 3;s1 1;s2 2;s23 4;s3 1;s4 9;s0 1", 8);
        gaps(t, 5, 10, 9, 13, 7, 6, 10, 3, 15, 14);
        reads(t, "h", 1);
        gaps(t, 5, 10, 9, 13, 7, 6, 10, 3, 15, 14);
        reads(t, "n3;d0109;d020;d1207", 4);
        gaps(t, 9, 0, 7);
        reads(t, "h;m12", 2);
        gaps(t, 40, 0, 40);
        // what is no distance stays, but for n, by which function and map begin anew
        t.function(0, 3);
        t.map(0, 1);
        t.see(2, 2);
        reads(t, "m1;d0108", 2);
        due("functionOf(0)", t.functionOf(0), 3);
        due("mapOf(0)", t.mapOf(0), 1);
        reads(t, "n3", 1);
        due("functionOf(0)", t.functionOf(0), 0);
        due("mapOf(0)", t.mapOf(0), 0);
        due("count(0)", t.count(0), 1);
        reads(t, "h;h;h;h;h;h;h;h;h;h;h;h", 12);
        reads(t, "s00 5", 1);
        gaps(t, 7, 7, 2);
        reads(t, "s012 5", 1);
        gaps(t, 7, 7, 2);
        reads(t, "s1 99", 1);
        gaps(t, 40, 7, 40);
        reads(t, "s2 00", 1);
        gaps(t, 40, 7, 40);
        reads(t, "m00", 1);
        gaps(t, 0, 0, 0);
    }

    static void readFaults() {
        TightHulls t = rectangle();
        due("read()", t.read(), -10);
        String[] ends = {"n", "d", "d0", "d01", "s", "s0", "s0123", "s0 ", "m", "h;", "n3;d", "m1;"};
        for (String text : ends) reads(t, text, -10 - text.length());
        reads(t, "x", -10);
        reads(t, ";h", -10);
        reads(t, " h", -10);
        reads(t, "H", -10);
        reads(t, "nn", -11);
        reads(t, "n33", -12);
        reads(t, "n 3", -11);
        reads(t, "d01 5", -13);
        reads(t, "d01234", -15);
        reads(t, "d0;1", -12);
        reads(t, "s 3", -11);
        reads(t, "s01234 1", -15);
        reads(t, "s0  3", -13);
        reads(t, "s0 345", -15);
        reads(t, "s0;3", -12);
        reads(t, "m-1", -11);
        reads(t, "m100", -13);
        reads(t, "h ", -11);
        reads(t, "hh", -11);
        reads(t, "h;;h", -12);
        reads(t, "m0;n3;d019;q", -10 - 11);
        reads(t, "h;h;h;h;h;h;h;h;h;h;h;h;", -10 - 23);
        reads(t, "h;h;h;h;h;h;h;h;h;h;h;h;h", -10 - 23);
        reads(t, "h;h;h;h;h;h;h;h;h;h;h;x", -10 - 22);
        reads(t, "h;h;h;h;h;h;h;h;h;h;h;m123", -10 - 25);
        // nothing is done of a text with a fault
        gaps(t, 3, 4, 5, 5, 4, 3);
    }

    static void readRefusals() {
        TightHulls t = new TightHulls();
        reads(t, "n2", 0);
        reads(t, "n6;n0;n9;d0141;d0099;d0441;d995;s4 1;s04 1;s9 1", 0);
        gaps(t, 2, 2, 2, 2, 2, 2);
        reads(t, "s4 1;n5;s4 1;n3;d034;d124", 4);
        gaps(t, 2, 2, 4);
        reads(t, "d0140;d0041;d010", 2);
        gaps(t, 0, 2, 4);
    }

    static void of() {
        TightHulls t = with(4, 1, 40, 40, 1, 40, 1);
        due("of(0, 3, 0)", t.of(0, 3, 0), 40);
        due("of(0, 3, 1)", t.of(0, 3, 1), 3);
        due("of(3, 0, 1)", t.of(3, 0, 1), 3);
        due("of(2, 2, 1)", t.of(2, 2, 1), 0);
        due("of(0, 3, 0)", t.of(0, 3, 0), 40);
        due("of(4, 0, 0)", t.of(4, 0, 0), -1);
        due("of(0, 4, 0)", t.of(0, 4, 0), -1);
        due("of(-1, 0, 0)", t.of(-1, 0, 0), -1);
        due("of(0, 1, 3)", t.of(0, 1, 3), -1);
        due("of(0, 1, -1)", t.of(0, 1, -1), -1);
        due("of(MIN, MAX, 0)", t.of(MIN, MAX, 0), -1);
        // two points and three, each one from those of the other lot: no split sets them apart, so all is left
        TightHulls star = with(5, 2, 1, 1, 1, 1, 1, 1, 2, 2, 2);
        due("told(3)", star.told(3), 0);
        due("of(0, 1, 2)", star.of(0, 1, 2), 4);
        due("of(2, 3, 2)", star.of(2, 3, 2), 4);
        due("of(0, 2, 2)", star.of(0, 2, 2), 2);
        due("of(3, 3, 2)", star.of(3, 3, 2), 0);
        TightHulls tree = tree();
        for (int x = 0; x < 5; x++) for (int y = 0; y < 5; y++) due("of(tree, 2)", tree.of(x, y, 2), 0);
        // no table: what is left is told by DISTANCES as they are
        TightHulls no = barred();
        due("of(0, 1, 2)", no.of(0, 1, 2), 0);
        due("of(0, 2, 2)", no.of(0, 2, 2), 6);
        due("of(2, 1, 2)", no.of(2, 1, 2), 0);
    }

    static void told() {
        TightHulls r = rectangle();
        int[] rectangle = {4, 1, -5, 6, 0, 5, 24, 3, 14, 4};
        for (int w = 0; w < rectangle.length; w++) due("rectangle told(" + w + ")", r.told(w), rectangle[w]);
        TightHulls t = tree();
        int[] tree = {5, 1, -5, 7, 1, 9, 60, 5, 26, 1};
        for (int w = 0; w < tree.length; w++) due("tree told(" + w + ")", t.told(w), tree[w]);
        due("told(10)", t.told(10), -1);
        due("told(-1)", t.told(-1), -1);
        due("told(MIN)", t.told(MIN), -1);
        t.set(3, 4, 40);
        due("told(1)", t.told(1), 0);
        due("told(2)", t.told(2), 304);
        due("told(4)", t.told(4), 0);
        TightHulls no = barred();
        due("told(2)", no.told(2), 12);
        due("told(4)", no.told(4), 0);
        due("told(8)", no.told(8), 7);
        due("told(9)", no.told(9), 2);
        TightHulls three = with(3, 3, 4, 5);
        due("three are a tree", three.told(4), 1);
        due("told(3)", three.told(3), 3);
        due("of like ones the least is usual", three.told(7), 3);
        due("told(7)", with(4, 9, 9, 1, 1, 40, 40).told(7), 1);
        due("told(7)", with(3, 40, 40, 0).told(7), 40);
        TightHulls all = with(5, 0, 0, 0, 0, 0, 0, 0, 0, 0, 0);
        due("told(9)", all.told(9), 120);
        due("told(3)", all.told(3), 0);
        due("told(5)", all.told(5), 0);
        due("told(7)", all.told(7), 0);
        due("told(8)", all.told(8), 0);
        due("told(2)", with(4, 5, 5, 1, 1, 1, 1).told(2), 31);
    }

    static void functionOf() {
        TightHulls t = rectangle();
        due("functionOf(0)", t.functionOf(0), 0);
        due("functionOf(10)", t.functionOf(10), 0);
        due("functionOf(11)", t.functionOf(11), 0);
        due("functionOf(12)", t.functionOf(12), -5);
        due("functionOf(4)", t.functionOf(4), -1);
        due("functionOf(9)", t.functionOf(9), -1);
        due("functionOf(13)", t.functionOf(13), -1);
        due("functionOf(-1)", t.functionOf(-1), -1);
        due("functionOf(MIN)", t.functionOf(MIN), -1);
        for (int p = 0; p < 4; p++) t.function(p, 5);
        due("functionOf(10)", t.functionOf(10), 1);
        due("functionOf(11)", t.functionOf(11), 1);
        // 0 and 3, 1 and 2: two lots without an odd round
        due("functionOf(12)", t.functionOf(12), 2);
        t.function(0, 6);
        due("functionOf(10)", t.functionOf(10), 1);
        due("functionOf(11)", t.functionOf(11), 0);
        due("functionOf(12)", t.functionOf(12), -5);
        t.function(0, 4);
        due("functionOf(10)", t.functionOf(10), 0);
    }

    static void depths() {
        TightHulls t = rectangle();
        int[][] numbers = {{4, 4, 6, 6}, {3, 3, 7, 7}, {0, 6, 8, 10}, {2, 4, 6, 8}, {3, 4, 6, 7}};
        int[] depth = {2, 1, 0, 0, 2};
        for (int i = 0; i < depth.length; i++) {
            for (int p = 0; p < 4; p++) t.function(p, numbers[i][p]);
            due("functionOf(10) of " + i, t.functionOf(10), 1);
            due("functionOf(11) of " + i, t.functionOf(11), 1);
            due("functionOf(12) of " + i, t.functionOf(12), depth[i]);
        }
        // told of least functions where there is no table, too
        TightHulls no = barred();
        no.function(0, 5);
        no.function(1, 0);
        no.function(2, 5);
        due("functionOf(12)", no.functionOf(12), 1);
        no.function(1, 1);
        due("functionOf(11)", no.functionOf(11), 0);
    }

    static void mapOf() {
        TightHulls t = rectangle();
        due("mapOf(4)", t.mapOf(4), -1);
        due("mapOf(-1)", t.mapOf(-1), -1);
        due("mapOf(9)", t.mapOf(9), -1);
        due("mapOf(12)", t.mapOf(12), -1);
        due("mapOf(10)", t.mapOf(10), 1);
        due("mapOf(11)", t.mapOf(11), 1);
        t.map(0, 1);
        due("mapOf(0)", t.mapOf(0), 1);
        due("mapOf(10)", t.mapOf(10), 0);
        due("mapOf(11)", t.mapOf(11), 0);
        for (int p = 0; p < 4; p++) t.map(p, 2);
        due("all to one keeps none", t.mapOf(10), 0);
        due("all to one shrinks", t.mapOf(11), 1);
        t.map(0, 1);
        t.map(1, 0);
        t.map(2, 3);
        t.map(3, 2);
        due("mapOf(10)", t.mapOf(10), 1);
        due("mapOf(11)", t.mapOf(11), 1);
    }

    static void middle() {
        TightHulls t = with(3, 3, 4, 5);
        due("middle(0, 1, 2)", t.middle(0, 1, 2), 2);
        due("middle(1, 0, 2)", t.middle(1, 0, 2), 4);
        due("middle(2, 1, 0)", t.middle(2, 1, 0), 6);
        due("middle(0, 0, 0)", t.middle(0, 0, 0), 0);
        due("middle(0, 1, 1)", t.middle(0, 1, 1), 6);
        due("middle(0, 1, 0)", t.middle(0, 1, 0), 0);
        due("middle(3, 0, 1)", t.middle(3, 0, 1), -1);
        due("middle(0, 3, 1)", t.middle(0, 3, 1), -1);
        due("middle(0, 1, -1)", t.middle(0, 1, -1), -1);
        due("middle(1, 0, 2)", barred().middle(1, 0, 2), -3);
    }

    static void corners() {
        due("corners()", new TightHulls().corners(), 5);
        due("corners()", rectangle().corners(), 8);
        due("corners()", tree().corners(), 8);
        due("corners()", with(5, 2, 3, 3, 2, 2, 3, 3, 2, 3, 2).corners(), 16);
        due("corners()", with(3, 3, 4, 5).corners(), 4);
        due("corners()", with(3, 1, 2, 1).corners(), 3);
        due("corners()", with(3, 0, 0, 0).corners(), 1);
        due("corners()", with(3, 0, 7, 7).corners(), 2);
        TightHulls t = barred();
        due("corners()", t.corners(), -3);
        t.shorten();
        due("corners()", t.corners(), 3);
        t.set(0, 2, 5);
        due("corners()", t.corners(), -3);
        t.points(4);
        due("corners()", t.corners(), 5);
    }

    static void at() {
        TightHulls t = rectangle();
        int[][] due = {{0, 6, 8, 10}, {2, 4, 6, 8}, {4, 2, 8, 6}, {6, 0, 10, 8},
            {6, 8, 2, 4}, {8, 6, 4, 2}, {8, 10, 0, 6}, {10, 8, 6, 0}};
        for (int c = 0; c < 8; c++) {
            for (int p = 0; p < 4; p++) due("at(" + c + ", " + p + ")", t.at(c, p), due[c][p]);
        }
        due("at(8, 0)", t.at(8, 0), -1);
        due("at(-1, 0)", t.at(-1, 0), -1);
        due("at(0, 4)", t.at(0, 4), -1);
        due("at(0, -1)", t.at(0, -1), -1);
        due("at(MAX, MIN)", t.at(MAX, MIN), -1);
        // a pentagon of two and three: halves at the corners
        TightHulls five = with(5, 2, 3, 3, 2, 2, 3, 3, 2, 3, 2);
        int[] first = {1, 3, 5, 5, 3};
        for (int p = 0; p < 5; p++) due("at(1, " + p + ")", five.at(1, p), first[p]);
        TightHulls most = with(5, 40, 40, 40, 40, 40, 40, 40, 40, 40, 40);
        due("corners()", most.corners(), 6);
        due("at(5, 0)", most.at(5, 0), 80);
        due("at(1, 4)", most.at(1, 4), 40);
        due("at(0, 0)", barred().at(0, 0), -3);
        due("at(-1, -1)", barred().at(-1, -1), -3);
    }

    static void corner() {
        TightHulls t = rectangle();
        int[] beside = {1, 3, 3, 1, 3, 3, 1, 1};
        int[] owner = {0, -5, -5, 1, -5, -5, 2, 3};
        for (int c = 0; c < 8; c++) {
            due("corner(" + c + ", 0)", t.corner(c, 0), 4);
            due("corner(" + c + ", 1)", t.corner(c, 1), beside[c]);
            due("corner(" + c + ", 2)", t.corner(c, 2), owner[c]);
        }
        due("corner(0, 3)", t.corner(0, 3), -1);
        due("corner(0, -1)", t.corner(0, -1), -1);
        due("corner(8, 0)", t.corner(8, 0), -1);
        due("corner(-1, 0)", t.corner(-1, 0), -1);
        due("corner(0, 3)", barred().corner(0, 3), -3);
        TightHulls two = with(3, 0, 7, 7);
        due("of two the first", two.corner(0, 2), 0);
        due("corner(1, 2)", two.corner(1, 2), 2);
        due("corner(0, 0)", two.corner(0, 0), 5);
        TightHulls all = with(5, 0, 0, 0, 0, 0, 0, 0, 0, 0, 0);
        due("corner(0, 0)", all.corner(0, 0), 15);
        due("corner(0, 1)", all.corner(0, 1), 0);
        TightHulls tree = tree();
        int[] twos = {5, 7, 8, 5};
        for (int c = 0; c < twos.length; c++) due("corner(" + c + ", 0)", tree.corner(c, 0), twos[c]);
        due("corner(1, 1)", tree.corner(1, 1), 3);
    }

    static void tight() {
        TightHulls t = rectangle();
        due("tight(0, 0, 0)", t.tight(0, 0, 0), 1);
        due("tight(0, 1, 1)", t.tight(0, 1, 1), 0);
        due("tight(0, 0, 3)", t.tight(0, 0, 3), 1);
        due("tight(0, 3, 0)", t.tight(0, 3, 0), 1);
        due("tight(0, 1, 2)", t.tight(0, 1, 2), 0);
        due("tight(1, 1, 2)", t.tight(1, 1, 2), 1);
        due("tight(1, 0, 0)", t.tight(1, 0, 0), 0);
        due("tight(8, 0, 0)", t.tight(8, 0, 0), -1);
        due("tight(0, 4, 0)", t.tight(0, 4, 0), -1);
        due("tight(0, 0, -1)", t.tight(0, 0, -1), -1);
        due("tight(9, 9, 9)", barred().tight(9, 9, 9), -3);
    }

    static void two() {
        TightHulls t = rectangle();
        due("two(0, 7, 0)", t.two(0, 7, 0), 10);
        due("two(7, 0, 0)", t.two(7, 0, 0), 10);
        due("two(0, 0, 0)", t.two(0, 0, 0), 0);
        due("two(0, 0, 1)", t.two(0, 0, 1), 0);
        due("two(0, 0, 2)", t.two(0, 0, 2), 4);
        due("two(0, 1, 1)", t.two(0, 1, 1), 1);
        due("two(0, 2, 1)", t.two(0, 2, 1), 0);
        due("two(1, 2, 1)", t.two(1, 2, 1), 1);
        due("two(1, 4, 1)", t.two(1, 4, 1), 1);
        // all are in the cell of opposite ones, but others have it too
        due("two(1, 5, 1)", t.two(1, 5, 1), 0);
        due("two(1, 5, 2)", t.two(1, 5, 2), 2);
        due("two(0, 1, 2)", t.two(0, 1, 2), 3);
        due("two(0, 8, 0)", t.two(0, 8, 0), -1);
        due("two(8, 0, 0)", t.two(8, 0, 0), -1);
        due("two(0, -1, 0)", t.two(0, -1, 0), -1);
        due("two(0, 1, 3)", t.two(0, 1, 3), -1);
        due("two(0, 1, -1)", t.two(0, 1, -1), -1);
        due("two(9, 9, 9)", barred().two(9, 9, 9), -3);
    }

    static void eye() {
        TightHulls t = rectangle();
        int[] eyes = {0, 3, 6, 7};
        for (int p = 0; p < 4; p++) due("eye(" + p + ")", t.eye(p), eyes[p]);
        due("eye(4)", t.eye(4), -1);
        due("eye(-1)", t.eye(-1), -1);
        TightHulls two = with(3, 0, 7, 7);
        due("eye(0)", two.eye(0), 0);
        due("eye(1)", two.eye(1), 0);
        due("eye(2)", two.eye(2), 1);
        due("eye(0)", barred().eye(0), -3);
        due("eye(-1)", barred().eye(-1), -3);
    }

    static void weight() {
        TightHulls t = rectangle();
        int[] weights = {2, 2, 0, 2, 2, 4, 2};
        for (int i = 0; i < 7; i++) due("weight(" + (2 * i + 2) + ")", t.weight(2 * i + 2), weights[i]);
        int[] none = {0, 1, 3, 15, 16, 18, -1, -2, MIN, MAX};
        for (int bits : none) due("weight(" + bits + ")", t.weight(bits), -1);
        t.points(5);
        due("weight(30)", t.weight(30), 2);
        due("weight(32)", t.weight(32), -1);
        due("weight(16)", t.weight(16), 2);
        TightHulls far = with(3, 40, 40, 0);
        due("weight(6)", far.weight(6), 80);
        due("weight(2)", far.weight(2), 0);
    }

    static void split() {
        TightHulls t = rectangle();
        int[] bits = {12, 2, 4, 8, 10, 14};
        int[] weights = {4, 2, 2, 2, 2, 2};
        for (int i = 0; i < 6; i++) {
            due("split(" + i + ", 0)", t.split(i, 0), bits[i]);
            due("split(" + i + ", 1)", t.split(i, 1), weights[i]);
        }
        due("split(6, 0)", t.split(6, 0), -5);
        due("split(MAX, 1)", t.split(MAX, 1), -5);
        due("split(-1, 0)", t.split(-1, 0), -1);
        due("split(0, 2)", t.split(0, 2), -1);
        due("split(0, -1)", t.split(0, -1), -1);
        due("split(99, 2)", t.split(99, 2), -1);
        TightHulls all = with(3, 0, 0, 0);
        due("split(0, 0)", all.split(0, 0), -5);
    }

    static void see() {
        TightHulls t = new TightHulls();
        due("see(2, 0)", t.see(2, 0), 1);
        due("see(14, 99)", t.see(14, 99), 2);
        due("see(1, 0)", t.see(1, 0), -1);
        due("see(0, 0)", t.see(0, 0), -1);
        due("see(16, 0)", t.see(16, 0), -1);
        due("see(-2, 0)", t.see(-2, 0), -1);
        due("see(16, 100)", t.see(16, 100), -1);
        due("see(2, 100)", t.see(2, 100), -2);
        due("see(2, -1)", t.see(2, -1), -2);
        due("see(6, 1)", t.see(6, 1), 3);
        due("see(6, 1)", t.see(6, 1), 4);
        due("see(6, 1)", t.see(6, 1), -4);
        due("see(6, 100)", t.see(6, 100), -2);
        due("see(7, 1)", t.see(7, 1), -1);
        due("count(0)", t.count(0), 4);
        due("see(-1, 100)", t.see(-1, 100), 0);
        due("count(0)", t.count(0), 0);
        due("see(6, 1)", t.see(6, 1), 1);
    }

    static void fits() {
        TightHulls t = rectangle();
        due("fits(0, 1, 0)", t.fits(0, 1, 0), 9);
        due("fits(0, 1, 1)", t.fits(0, 1, 1), 1);
        due("fits(1, 0, 1)", t.fits(1, 0, 1), 1);
        t.see(6, 2);
        due("fits(0, 1, 0)", t.fits(0, 1, 0), 1);
        due("fits(0, 1, 1)", t.fits(0, 1, 1), 9);
        gaps(t, 3, 4, 5, 5, 4, 3);
        t.see(6, 3);
        due("fits(0, 1, 0)", t.fits(0, 1, 0), 0);
        due("fits(0, 1, 1)", t.fits(0, 1, 1), -5);
        due("fits(0, 0, 0)", t.fits(0, 0, 0), -1);
        due("fits(0, 4, 0)", t.fits(0, 4, 0), -1);
        due("fits(-1, 0, 0)", t.fits(-1, 0, 0), -1);
        due("fits(0, 1, 2)", t.fits(0, 1, 2), -1);
        due("fits(0, 1, -1)", t.fits(0, 1, -1), -1);
        // what is seen of a split of points that are gone
        TightHulls gone = new TightHulls();
        gone.see(8, 0);
        gone.points(3);
        due("fits(0, 1, 0)", gone.fits(0, 1, 0), 0);
        gone.see(-1, 0);
        due("fits(0, 1, 0)", gone.fits(0, 1, 0), 5);
        // a split with weight 0 may be seen
        TightHulls zero = new TightHulls();
        zero.see(6, 0);
        due("fits(0, 3, 0)", zero.fits(0, 3, 0) + zero.fits(0, 3, 1), 5);
        TightHulls wide = with(3, 0, 40, 40);
        due("fits(0, 1, 0)", wide.fits(0, 1, 0), 41);
        due("fits(0, 1, 1)", wide.fits(0, 1, 1), 0);
        due("fits(0, 1, 0)", with(4, 9, 1, 40, 1, 1, 1).fits(0, 1, 0), 0);
    }

    static void odds() {
        TightHulls t = rectangle();
        due("odds(0, 1, 0)", t.odds(0, 1, 0), 1);
        due("odds(0, 1, 1)", t.odds(0, 1, 1), 2);
        due("odds(0, 3, 0)", t.odds(0, 3, 0), 2);
        due("odds(3, 0, 1)", t.odds(3, 0, 1), 3);
        due("odds(0, 0, 0)", t.odds(0, 0, 0), NO);
        due("odds(0, 4, 0)", t.odds(0, 4, 0), NO);
        due("odds(-1, 0, 0)", t.odds(-1, 0, 0), NO);
        due("odds(0, 1, 2)", t.odds(0, 1, 2), NO);
        due("odds(0, 1, -1)", t.odds(0, 1, -1), NO);
        due("odds(0, 1, 1)", with(3, 0, 0, 0).odds(0, 1, 1), NO);
        TightHulls two = with(3, 0, 7, 7);
        due("odds(0, 1, 0)", two.odds(0, 1, 0), 0);
        due("odds(0, 1, 1)", two.odds(0, 1, 1), 1);
        due("odds(0, 2, 0)", two.odds(0, 2, 0), 1);
        due("odds(0, 2, 1)", two.odds(0, 2, 1), 1);
    }

    static void mean() {
        due("mean(0)", rectangle().mean(0), 4);
        due("mean(1)", rectangle().mean(1), 1);
        TightHulls t = with(5, 40, 1, 1, 1, 1, 1, 1, 1, 1, 0);
        due("mean(0)", t.mean(0), 24);
        due("mean(1)", t.mean(1), 5);
        due("mean(2)", t.mean(2), NO);
        due("mean(-1)", t.mean(-1), NO);
        TightHulls all = with(3, 0, 0, 0);
        due("mean(0)", all.mean(0), 0);
        due("mean(1)", all.mean(1), 1);
        TightHulls seven = with(3, 2, 2, 3);
        due("mean(0)", seven.mean(0), 7);
        due("mean(1)", seven.mean(1), 3);
    }

    static void event() {
        TightHulls t = new TightHulls();
        due("event(0, 3)", t.event(0, 3), 1);
        due("event(0, 4)", t.event(0, 4), -1);
        due("event(0, -1)", t.event(0, -1), -1);
        due("event(3, 0)", t.event(3, 0), -1);
        due("event(-2, 0)", t.event(-2, 0), -1);
        due("event(1, 9)", t.event(1, 9), 2);
        due("event(1, 10)", t.event(1, 10), -2);
        due("event(1, -1)", t.event(1, -1), -2);
        due("event(2, 1)", t.event(2, 1), -2);
        due("event(2, -1)", t.event(2, -1), -2);
        due("event(1, 0)", t.event(1, 0), 3);
        for (int i = 4; i <= 8; i++) due("event(2, 0)", t.event(2, 0), i);
        due("event(2, 0)", t.event(2, 0), -4);
        due("event(2, 1)", t.event(2, 1), -2);
        due("event(0, 4)", t.event(0, 4), -1);
        due("event(-1, 77)", t.event(-1, 77), 0);
        due("event(2, 0)", t.event(2, 0), 1);
    }

    static void after() {
        TightHulls t = barred();
        due("after(0)", t.after(0), 0);
        due("after(3)", t.after(3), -1);
        due("after(-1)", t.after(-1), -1);
        t.event(2, 0);
        due("after(0)", t.after(0), 1);
        due("after(1)", t.after(1), 2);
        due("after(2)", t.after(2), 1);
        gaps(t, 1, 5, 1);
        // the order of the rows counts, and POINTS that are gone do nothing
        TightHulls all = new TightHulls();
        all.event(1, 9);
        due("after(1)", all.after(1), 0);
        all.event(0, 3);
        due("after(1)", all.after(1), 1);
        all.points(3);
        due("after(1)", all.after(1), 0);
        all.event(-1, 0);
        all.event(0, 0);
        all.event(1, 9);
        due("after(1)", all.after(1), 0);
        TightHulls most = with(3, 40, 40, 39);
        most.event(0, 0);
        most.event(1, 9);
        due("40 at most", most.after(1), 3);
        most.set(1, 2, 40);
        most.event(1, 9);
        most.event(1, 9);
        most.event(1, 9);
        due("after(1)", most.after(1), 3);
        most.event(1, 4);
        due("0 at least", most.after(1), 0);
        TightHulls r = rectangle();
        due("after(2)", r.after(2), 0);
        r.event(0, 1);
        due("after(0)", r.after(0), 1);
        TightHulls grown = new TightHulls();
        grown.event(0, 0);
        due("after(2)", grown.after(2), 1);
        grown.event(1, 1);
        grown.event(1, 1);
        due("after(0)", grown.after(0), 1);
        due("after(1)", grown.after(1), 1);
    }

    static void book() {
        TightHulls t = new TightHulls();
        due("book(0, 1, 0)", t.book(0, 1, 0), 1);
        due("book(0, 0, 0)", t.book(0, 0, 0), -1);
        due("book(0, 4, 0)", t.book(0, 4, 0), -1);
        due("book(4, 0, 41)", t.book(4, 0, 41), -1);
        due("book(-2, 0, 0)", t.book(-2, 0, 0), -1);
        due("book(0, -1, 0)", t.book(0, -1, 0), -1);
        due("book(0, 1, 41)", t.book(0, 1, 41), -2);
        due("book(0, 1, -1)", t.book(0, 1, -1), -2);
        for (int i = 2; i <= 8; i++) due("book(3, 2, 40)", t.book(3, 2, 40), i);
        due("book(3, 2, 40)", t.book(3, 2, 40), -4);
        due("book(3, 2, 41)", t.book(3, 2, 41), -2);
        due("book(3, 3, 40)", t.book(3, 3, 40), -1);
        due("count(2)", t.count(2), 8);
        due("book(-1, 99, 99)", t.book(-1, 99, 99), 0);
        due("count(2)", t.count(2), 0);
    }

    static void looked() {
        TightHulls t = rectangle();
        due("looked()", t.looked(), -5);
        t.book(0, 1, 3);
        t.book(3, 0, 5);
        due("looked()", t.looked(), -5);
        t.book(1, 2, 4);
        t.book(1, 2, 3);
        due("looked()", t.looked(), 2);
        t.set(0, 3, 6);
        due("looked()", t.looked(), 1);
        TightHulls u = new TightHulls();
        u.book(0, 1, 2);
        u.book(0, 3, 2);
        due("looked()", u.looked(), -5);
        u.points(3);
        due("looked()", u.looked(), 1);
        u.points(5);
        due("looked()", u.looked(), -5);
    }

    static void judge() {
        TightHulls t = rectangle();
        int[] gaps = {3, 4, 5, 5, 4, 3};
        due("judge(6, 0)", t.judge(6, 0), -1);
        due("judge(-1, 0)", t.judge(-1, 0), -1);
        due("judge(0, 0)", t.judge(0, 0), 100);
        t.tape(0, 2, 9);
        for (int i = 0; i < 6; i++) t.item(0, i + 2, gaps[i]);
        due("judge(0, 2)", t.judge(0, 2), -5);
        due("judge(0, 0)", t.judge(0, 0), 1);
        due("judge(0, -1)", t.judge(0, -1), 100);
        due("judge(0, MIN)", t.judge(0, MIN), 100);
        due("judge(0, 9)", t.judge(0, 9), 100);
        due("judge(0, MAX)", t.judge(0, MAX), 100);
        due("judge(0, 7)", t.judge(0, 7), 2);
        due("judge(0, 8)", t.judge(0, 8), 1);
        t.item(0, 5, 6);
        due("judge(0, 2)", t.judge(0, 2), 12);
        t.tape(1, 2, 4);
        for (int i = 0; i < 4; i++) t.item(1, i, gaps[i]);
        due("judge(1, 0)", t.judge(1, 0), 104);
        t.item(1, 3, 0);
        due("judge(1, 0)", t.judge(1, 0), 12);
        t.tape(1, 2, 0);
        due("judge(1, 0)", t.judge(1, 0), 100);
        int[] others = {0, 1, 3, 4};
        for (int sort : others) {
            t.tape(2, sort, 6);
            due("judge(2, 0) of sort " + sort, t.judge(2, 0), -12);
            due("judge(2, -1) of sort " + sort, t.judge(2, -1), -12);
        }
        t.tape(2, -1, 0);
        due("judge(2, 0)", t.judge(2, 0), 100);
        TightHulls two = new TightHulls();
        two.tape(5, 2, 6);
        for (int i = 0; i < 6; i++) two.item(5, i, i == 5 ? 3 : 2);
        due("judge(5, 0)", two.judge(5, 0), 23);
    }

    static void image() {
        TightHulls t = rectangle();
        due("image()", t.image(), 24);
        t.set(0, 1, 4);
        due("image()", t.image(), 25);
        t.set(0, 1, 9);
        due("undo()", t.undo(), 25);
        gaps(t, 4, 4, 5, 5, 4, 3);
    }

    static void undo() {
        TightHulls t = rectangle();
        due("undo()", t.undo(), -3);
        t.function(2, 7);
        t.map(3, 1);
        t.see(2, 1);
        t.event(2, 0);
        t.event(1, 3);
        t.book(0, 1, 3);
        due("image()", t.image(), 24);
        t.see(4, 1);
        t.event(-1, 0);
        t.book(-1, 0, 0);
        t.points(5);
        t.feed('h');
        t.tape(0, 2, 1);
        due("undo()", t.undo(), 24);
        gaps(t, 3, 4, 5, 5, 4, 3);
        due("functionOf(2)", t.functionOf(2), 7);
        due("mapOf(3)", t.mapOf(3), 1);
        due("count(0)", t.count(0), 1);
        due("count(1)", t.count(1), 2);
        due("count(2)", t.count(2), 1);
        due("looked()", t.looked(), -5);
        due("the text stays", t.count(3), 1);
        due("tapes stay", t.peek(0, 0), 0);
        due("corners()", t.corners(), 8);
        // the image stays as it was taken
        t.function(2, 8);
        t.set(0, 1, 2);
        t.map(3, 0);
        t.see(-1, 0);
        due("undo()", t.undo(), 24);
        due("functionOf(2)", t.functionOf(2), 7);
        due("mapOf(3)", t.mapOf(3), 1);
        due("count(0)", t.count(0), 1);
        gaps(t, 3, 4, 5, 5, 4, 3);
    }

    static void count() {
        TightHulls t = new TightHulls();
        t.see(2, 1);
        t.event(2, 0);
        t.event(2, 0);
        t.book(0, 1, 1);
        t.book(0, 1, 1);
        t.book(0, 1, 1);
        for (int i = 0; i < 4; i++) t.feed('h');
        for (int w = 0; w < 4; w++) due("count(" + w + ")", t.count(w), w + 1);
        due("count(4)", t.count(4), -2);
        due("count(-1)", t.count(-1), -2);
        due("count(MIN)", t.count(MIN), -2);
    }

    static void tape() {
        TightHulls t = new TightHulls();
        due("tape(0, 3, 60)", t.tape(0, 3, 60), 1);
        due("peek(0, 59)", t.peek(0, 59), 0);
        due("peek(0, 60)", t.peek(0, 60), NO);
        due("item(0, 59, 5)", t.item(0, 59, 5), 1);
        due("tape(0, 3, 61)", t.tape(0, 3, 61), -2);
        due("tape(0, 5, 1)", t.tape(0, 5, 1), -2);
        due("tape(0, 5, -1)", t.tape(0, 5, -1), -2);
        due("tape(0, -2, 1)", t.tape(0, -2, 1), -2);
        due("tape(0, 3, -1)", t.tape(0, 3, -1), -14);
        due("tape(0, 0, MIN)", t.tape(0, 0, MIN), -14);
        due("tape(0, 0, MAX)", t.tape(0, 0, MAX), -2);
        due("tape(6, 3, 1)", t.tape(6, 3, 1), -1);
        due("tape(-1, 9, -1)", t.tape(-1, 9, -1), -1);
        due("peek(0, 59)", t.peek(0, 59), 5);
        due("tape(0, 3, 60)", t.tape(0, 3, 60), 1);
        due("peek(0, 59)", t.peek(0, 59), 0);
        due("tape(0, -1, 99)", t.tape(0, -1, 99), 1);
        due("tape(0, -1, -99)", t.tape(0, -1, -99), 1);
        due("peek(0, 0)", t.peek(0, 0), NO);
        due("item(0, 0, 0)", t.item(0, 0, 0), -11);
        due("tape(5, 4, 0)", t.tape(5, 4, 0), 1);
        due("peek(5, 0)", t.peek(5, 0), NO);
        due("item(5, 0, 0)", t.item(5, 0, 0), -13);
    }

    static void item() {
        TightHulls t = new TightHulls();
        long v = 0x123456789abcdef0L;
        long[] kept = {(byte) 0xf0, (short) 0xdef0, 0x9abcdef0, v, 1};
        for (int sort = 0; sort < 5; sort++) {
            t.tape(sort, sort, 2);
            due("item of sort " + sort, t.item(sort, 1, v), 1);
            due("peek of sort " + sort, t.peek(sort, 1), kept[sort]);
            due("peek of sort " + sort, t.peek(sort, 0), 0);
            due("item of sort " + sort, t.item(sort, 1, 256L << 32), 1);
            due("peek of sort " + sort, t.peek(sort, 1), sort == 3 ? 256L << 32 : sort == 4 ? 1 : 0);
            t.item(sort, 0, -1);
            due("peek of sort " + sort, t.peek(sort, 0), sort == 4 ? 1 : -1);
            t.item(sort, 0, 0);
            due("peek of sort " + sort, t.peek(sort, 0), 0);
            due("item(2)", t.item(sort, 2, 1), -13);
            due("item(-1)", t.item(sort, -1, 1), -13);
            due("item(MIN)", t.item(sort, MIN, 1), -13);
        }
        due("item(5, 0, 1)", t.item(5, 0, 1), -11);
        due("item(5, -1, 1)", t.item(5, -1, 1), -11);
        due("item(6, 0, 1)", t.item(6, 0, 1), -1);
        due("item(-1, 0, 1)", t.item(-1, 0, 1), -1);
    }

    static void peek() {
        TightHulls t = new TightHulls();
        t.tape(1, 3, 3);
        t.item(1, 2, Long.MAX_VALUE);
        due("peek(1, 2)", t.peek(1, 2), Long.MAX_VALUE);
        due("peek(1, 3)", t.peek(1, 3), NO);
        due("peek(1, -1)", t.peek(1, -1), NO);
        due("peek(1, MAX)", t.peek(1, MAX), NO);
        due("peek(0, 0)", t.peek(0, 0), NO);
        due("peek(6, 0)", t.peek(6, 0), NO);
        due("peek(-1, 0)", t.peek(-1, 0), NO);
        due("peek(MIN, 0)", t.peek(MIN, 0), NO);
    }

    static void shift() {
        TightHulls t = new TightHulls();
        t.tape(0, 1, 5);
        t.tape(1, 1, 3);
        t.tape(2, 2, 5);
        for (int i = 0; i < 5; i++) t.item(0, i, i + 1);
        due("shift(0, 1, 1, 0, 3)", t.shift(0, 1, 1, 0, 3), 3);
        for (int i = 0; i < 3; i++) due("peek(1, " + i + ")", t.peek(1, i), i + 2);
        due("shift(0, 0, 0, 1, 4)", t.shift(0, 0, 0, 1, 4), 4);
        int[] up = {1, 1, 2, 3, 4};
        for (int i = 0; i < 5; i++) due("peek(0, " + i + ")", t.peek(0, i), up[i]);
        due("shift(0, 2, 0, 0, 3)", t.shift(0, 2, 0, 0, 3), 3);
        int[] down = {2, 3, 4, 3, 4};
        for (int i = 0; i < 5; i++) due("peek(0, " + i + ")", t.peek(0, i), down[i]);
        due("shift(0, 5, 1, 3, 0)", t.shift(0, 5, 1, 3, 0), 0);
        due("shift(0, 6, 1, 0, 0)", t.shift(0, 6, 1, 0, 0), -13);
        due("shift(0, 0, 1, 4, 0)", t.shift(0, 0, 1, 4, 0), -13);
        due("shift(0, 0, 1, 0, 4)", t.shift(0, 0, 1, 0, 4), -13);
        due("shift(1, 0, 0, 0, 4)", t.shift(1, 0, 0, 0, 4), -13);
        due("shift(0, -1, 1, 0, 1)", t.shift(0, -1, 1, 0, 1), -13);
        due("shift(0, 0, 1, -1, 1)", t.shift(0, 0, 1, -1, 1), -13);
        due("shift(0, 0, 1, 0, -1)", t.shift(0, 0, 1, 0, -1), -13);
        due("shift(0, MAX, 1, MAX, MAX)", t.shift(0, MAX, 1, MAX, MAX), -13);
        due("shift(0, 1, 1, 0, MAX)", t.shift(0, 1, 1, 0, MAX), -13);
        due("shift(0, MAX, 1, 0, 1)", t.shift(0, MAX, 1, 0, 1), -13);
        due("shift(0, MIN, 1, 0, MIN)", t.shift(0, MIN, 1, 0, MIN), -13);
        due("shift(0, 0, 2, 0, 1)", t.shift(0, 0, 2, 0, 1), -12);
        due("shift(0, 0, 2, -1, 1)", t.shift(0, 0, 2, -1, 1), -12);
        due("shift(0, 0, 3, 0, 1)", t.shift(0, 0, 3, 0, 1), -11);
        due("shift(3, 0, 0, 0, 1)", t.shift(3, 0, 0, 0, 1), -11);
        due("shift(3, 0, 3, 0, 0)", t.shift(3, 0, 3, 0, 0), -11);
        due("shift(6, 0, 0, 0, 1)", t.shift(6, 0, 0, 0, 1), -1);
        due("shift(3, 0, -1, 0, 1)", t.shift(3, 0, -1, 0, 1), -1);
        for (int i = 0; i < 5; i++) due("peek(0, " + i + ")", t.peek(0, i), down[i]);
    }
}
