/** The edges that promises 1 to 38 name: each sentence of each promise, and each refusal by its own answer. */
public final class PromisesEdgesTest {
    static final int NONE = Edge.NONE, BAD = Edge.BAD, STATE = Edge.STATE, FULL = Edge.FULL, NOT_ANY = Edge.NOT_ANY;
    static final int NOTHING = Edge.NOTHING, CAST = Edge.CAST, PLACE = Edge.PLACE, SIZE = Edge.SIZE;
    static final int MIN = Edge.MIN, MAX = Edge.MAX;
    static final long NO = Edge.NO;
    /** Numbers that are no POINT's, CORNER's, TAPE's or figure's, however many there are. */
    static final int[] FAR = {MIN, MIN + 1, -100, -2, -1, 60, 64, 256, 1 << 16, MAX - 1, MAX};

    public static void main(String[] args) {
        newObject();
        points();
        set();
        shorten();
        function();
        least();
        map();
        feed();
        read();
        of();
        told();
        functionOf();
        mapOf();
        middle();
        corners();
        at();
        corner();
        tight();
        two();
        eye();
        weight();
        split();
        see();
        fits();
        odds();
        mean();
        event();
        after();
        book();
        looked();
        judge();
        image();
        undo();
        count();
        tape();
        item();
        peek();
        shift();
        Edge.end();
    }

    static String open = "";

    /** The promise that follows; all words of the one before must have been tested. */
    static void promise(String heading) {
        Edge.section("Promise " + heading);
        open = "Promise " + heading;
    }

    static void words(String quote) { Edge.words(quote); }
    static void due(long got, long want) { Edge.due(got, want); }
    static void endPromise() { Edge.allOf(open); }

    // ---- distances

    static void newObject() {
        promise("1: A new object");
        words("Four POINTS, all DISTANCES 2.");
        TightHulls t = new TightHulls();
        due(t.told(0), 4);
        Edge.dueGaps(t, 2, 2, 2, 2, 2, 2);
        Edge.dueNumbers(t, 0, 0, 0, 0);
        Edge.dueMap(t, 0, 1, 2, 3);
        Edge.dueCounts(t, 0, 0, 0, 0);
        for (int tape = 0; tape <= 5; tape++) due(t.peek(tape, 0), NO);
        due(t.undo(), STATE);
        due(t.read(), -10);
        // one object knows nothing of another one
        t.points(5);
        t.image();
        due(new TightHulls().told(0), 4);
        due(new TightHulls().undo(), STATE);
        endPromise();
    }

    static void points() {
        promise("2: points");
        words("There are n POINTS, all DISTANCES are 2, THE FUNCTION is 0, the MAP leaves all as they are: how many there were.");
        for (int from = 3; from <= 5; from++) {
            for (int n = 3; n <= 5; n++) {
                TightHulls t = Edge.even(5, 40);
                Edge.numbers(t, 160, 159, 158, 157, 156);
                Edge.map(t, 4, 4, 4, 4, 0);
                t.points(from);
                t.set(0, 1, 9);
                t.set(1, from - 1, 8);
                t.function(from - 1, 7);
                t.map(from - 1, 1);
                due(t.points(n), from);
                due(t.told(0), n);
                for (int x = 0; x < n; x++) {
                    due(t.functionOf(x), 0);
                    due(t.mapOf(x), x);
                    for (int y = 0; y < n; y++) due(t.of(x, y, 0), x == y ? 0 : 2);
                }
                due(t.functionOf(n), NONE);
                due(t.mapOf(n), NONE);
                due(t.points(n), n);
            }
        }
        words("BAD.");
        TightHulls t = Edge.rectangle();
        due(t.points(2), BAD);
        due(t.points(6), BAD);
        for (int n : FAR) due(t.points(n), BAD);
        Edge.dueGaps(t, 3, 4, 5, 5, 4, 3);
        endPromise();
    }

    static void set() {
        promise("3: set");
        words("DISTANCE of two POINTS becomes v: what it was.");
        TightHulls t = new TightHulls();
        due(t.set(0, 3, 0), 2);
        due(t.set(3, 0, 40), 0);
        due(t.set(0, 3, 40), 40);
        due(t.set(2, 1, 1), 2);
        Edge.dueGaps(t, 2, 2, 40, 1, 2, 2);
        words("NONE: no two unlike POINTS; BAD.");
        for (int n = 3; n <= 5; n++) {
            TightHulls u = Edge.even(n, 7);
            for (int p = 0; p < n; p++) {
                due(u.set(p, p, 1), NONE);
                due(u.set(p, n, 1), NONE);
                due(u.set(n, p, 1), NONE);
                due(u.set(p, -1, 1), NONE);
                due(u.set(-1, p, 1), NONE);
            }
            for (int far : FAR) {
                due(u.set(0, far, 1), NONE);
                due(u.set(far, 0, 1), NONE);
                due(u.set(far, far, 1), NONE);
                due(u.set(0, 1, far), BAD);
            }
            due(u.set(0, 1, -1), BAD);
            due(u.set(0, 1, 41), BAD);
            due(u.set(0, 0, 41), NONE);
            due(u.set(0, n, -1), NONE);
            due(u.set(0, 1, 40), 7);
            due(u.set(0, 1, 0), 40);
        }
        endPromise();
    }

    static void shorten() {
        promise("4: shorten");
        words("All DISTANCES are SHORTENED: how many twos have another one then.");
        due(new TightHulls().shorten(), 0);
        due(Edge.even(5, 0).shorten(), 0);
        due(Edge.even(5, 40).shorten(), 0);
        due(Edge.with(3, 1, 2, 1).shorten(), 0);
        due(Edge.with(3, 1, 3, 1).shorten(), 1);
        due(Edge.with(4, 0, 0, 0, 9, 9, 9).shorten(), 3);
        TightHulls t = Edge.with(5, 40, 40, 40, 0, 40, 40, 0, 40, 0, 0);
        due(t.shorten(), 6);
        Edge.dueGaps(t, 0, 0, 0, 0, 0, 0, 0, 0, 0, 0);
        due(t.shorten(), 0);
        endPromise();
    }

    static void function() {
        promise("5: function");
        words("The number of a POINT in THE FUNCTION becomes v: what it was.");
        TightHulls t = new TightHulls();
        due(t.function(3, 160), 0);
        due(t.function(3, 0), 160);
        due(t.function(3, 1), 0);
        due(t.function(0, 2), 0);
        Edge.dueNumbers(t, 2, 0, 0, 1);
        words("NONE: point; BAD.");
        for (int n = 3; n <= 5; n++) {
            t.points(n);
            due(t.function(n - 1, 5), 0);
            due(t.function(n, 5), NONE);
            due(t.function(-1, 5), NONE);
            due(t.function(n, 161), NONE);
            due(t.function(-1, -1), NONE);
            due(t.function(n - 1, 161), BAD);
            due(t.function(n - 1, -1), BAD);
            for (int far : FAR) {
                due(t.function(far, 5), NONE);
                if (far < 0 || far > 160) due(t.function(0, far), BAD);
            }
            due(t.functionOf(n - 1), 5);
        }
        endPromise();
    }

    static void least() {
        promise("6: least");
        words("THE FUNCTION becomes what it is MADE LEAST (what 0), that of a CORNER (what 1; which: which one; else which does not matter): how many numbers are otherwise then.");
        TightHulls t = Edge.rectangle();
        due(t.least(1, 0), 3);
        Edge.dueNumbers(t, 0, 6, 8, 10);
        due(t.least(1, 0), 0);
        due(t.least(1, 7), 4);
        Edge.dueNumbers(t, 10, 8, 6, 0);
        due(t.least(1, 6), 4);
        Edge.dueNumbers(t, 8, 10, 0, 6);
        due(t.least(0, 0), 0);
        for (int far : FAR) {
            t.function(3, 9);
            due(t.least(0, far), 1);
            Edge.dueNumbers(t, 8, 10, 0, 6);
        }
        TightHulls one = Edge.even(5, 0);
        due(one.least(1, 0), 0);
        one.function(4, 1);
        due(one.least(1, 0), 1);
        TightHulls mid = Edge.even(5, 2);
        due(mid.least(1, 1), 5);
        Edge.dueNumbers(mid, 2, 2, 2, 2, 2);
        words("NONE: what; STATE: it isn't A TABLE (1); NONE: corner (1).");
        due(t.least(2, 0), NONE);
        due(t.least(-1, 0), NONE);
        for (int far : FAR) due(t.least(far, 0), NONE);
        due(t.least(1, 8), NONE);
        due(t.least(1, -1), NONE);
        for (int far : FAR) due(t.least(1, far), NONE);
        due(one.least(1, 1), NONE);
        TightHulls no = Edge.barred();
        due(no.least(1, 0), STATE);
        due(no.least(1, -1), STATE);
        due(no.least(1, 99), STATE);
        due(no.least(2, 0), NONE);
        due(no.least(-1, 99), NONE);
        due(no.least(0, -1), 2);
        Edge.dueNumbers(no, 10, 2, 0);
        endPromise();
    }

    static void map() {
        promise("7: map");
        words("In the MAP a POINT becomes another one: which it became.");
        TightHulls t = new TightHulls();
        due(t.map(0, 3), 0);
        due(t.map(3, 0), 3);
        due(t.map(3, 3), 0);
        due(t.map(0, 3), 3);
        Edge.dueMap(t, 3, 1, 2, 3);
        words("NONE: either.");
        for (int n = 3; n <= 5; n++) {
            t.points(n);
            due(t.map(n - 1, 0), n - 1);
            due(t.map(0, n - 1), 0);
            due(t.map(n, 0), NONE);
            due(t.map(0, n), NONE);
            due(t.map(-1, 0), NONE);
            due(t.map(0, -1), NONE);
            due(t.map(n, n), NONE);
            for (int far : FAR) {
                due(t.map(far, 1), NONE);
                due(t.map(1, far), NONE);
            }
            due(t.mapOf(0), n - 1);
            due(t.mapOf(1), 1);
        }
        endPromise();
    }

    static void feed() {
        promise("8: feed");
        words("A sign (0 .. 127) comes behind THE TEXT's: how many it has.");
        TightHulls t = new TightHulls();
        due(t.feed('m'), 1);
        due(t.feed('0'), 2);
        due(t.read(), 1);
        due(t.told(6), 0);
        due(t.feed(0), 1);
        due(t.feed(127), 2);
        for (int many = 3; many <= 100; many++) due(t.feed(many), many);
        words("BAD; FULL.");
        due(t.feed('h'), FULL);
        due(t.feed(0), FULL);
        due(t.feed(127), FULL);
        due(t.feed(128), BAD);
        due(t.feed(-1), BAD);
        due(t.read(), -10);
        for (int far : FAR) if (far < 0 || far > 127) due(t.feed(far), BAD);
        due(t.feed(128), BAD);
        due(t.feed(-1), BAD);
        due(t.count(3), 0);
        due(t.feed('h'), 1);
        endPromise();
    }

    static void read() {
        promise("9: read");
        words("THE TEXT, which is empty then (by a FAULT, too), is a set-up: how many CLAUSES were done; -10 less the FAULT.");
        TightHulls t = new TightHulls();
        due(t.read(), -10);
        due(Edge.read(t, "m1;d0141;h"), 2);
        due(t.count(3), 0);
        due(t.read(), -10);
        due(Edge.read(t, "n2"), 0);
        due(t.count(3), 0);
        due(Edge.read(t, "h;h;"), -14);
        due(t.count(3), 0);
        due(t.read(), -10);
        due(Edge.read(t, "x;h"), -10);
        due(t.count(3), 0);
        due(Edge.read(t, "h"), 1);
        // a FAULT at 100, the most there is
        for (int i = 0; i < 99; i++) t.feed("s0123 12;".charAt(i % 9));
        due(t.feed('s'), 100);
        due(t.read(), -110);
        due(t.count(3), 0);
        due(t.feed('h'), 1);
        endPromise();
    }

    // ---- what is told

    static void of() {
        promise("10: of");
        words("DISTANCE of two POINTS (what 0; 0 of one and itself), SHORTENED (1), REST (2; 0 of one and itself).");
        TightHulls t = Edge.barred();
        int[][] due = {{1, 5, 1}, {1, 2, 1}, {0, 6, 0}};
        for (int what = 0; what < 3; what++) {
            int i = 0;
            for (int x = 0; x < 3; x++) {
                due(t.of(x, x, what), 0);
                for (int y = x + 1; y < 3; y++) {
                    due(t.of(x, y, what), due[what][i]);
                    due(t.of(y, x, what), due[what][i++]);
                }
            }
        }
        words("NONE: x, y, what.");
        for (int n = 3; n <= 5; n++) {
            TightHulls u = Edge.even(n, 7);
            for (int what = 0; what < 3; what++) {
                due(u.of(n - 1, 0, what), what == 2 ? 7 * 2 - 14 : 7);
                due(u.of(n, 0, what), NONE);
                due(u.of(0, n, what), NONE);
                due(u.of(-1, 0, what), NONE);
                due(u.of(0, -1, what), NONE);
                due(u.of(n, n, what), NONE);
                due(u.of(-1, -1, what), NONE);
            }
            due(u.of(0, 1, 3), NONE);
            due(u.of(0, 1, -1), NONE);
            due(u.of(0, 0, 3), NONE);
            for (int far : FAR) {
                due(u.of(far, 0, 0), NONE);
                due(u.of(0, far, 0), NONE);
                due(u.of(0, 1, far), NONE);
                due(u.of(far, far, far), NONE);
            }
        }
        endPromise();
    }

    static void told() {
        promise("11: told");
        words("0 n, 1 whether it is A TABLE (1, 0), 2 BARRED (100 x, 10 y and z, together; -5: none), 3 how many SPLITS COUNT, 4 whether IT IS A TREE (1, 0), 5 SPAN, 6 GIRTH, 7 USUAL, 8 ROUND, 9 KEEPERS.");
        dueTold(new TightHulls(), 4, 1, NOT_ANY, 4, 1, 2, 12, 2, 8, 24);
        dueTold(Edge.even(3, 0), 3, 1, NOT_ANY, 0, 1, 0, 0, 0, 0, 6);
        dueTold(Edge.even(5, 40), 5, 1, NOT_ANY, 5, 1, 40, 400, 40, 200, 120);
        dueTold(Edge.rectangle(), 4, 1, NOT_ANY, 6, 0, 5, 24, 3, 14, 4);
        dueTold(Edge.barred(), 3, 0, 12, 2, 0, 5, 7, 1, 7, 2);
        // the last three there are
        TightHulls last = Edge.even(5, 20);
        last.set(2, 4, 31);
        last.set(3, 2, 15);
        last.set(3, 4, 15);
        due(last.told(2), 234);
        last.set(2, 4, 30);
        due(last.told(2), NOT_ANY);
        TightHulls other = Edge.even(5, 20);
        other.set(3, 4, 31);
        other.set(3, 2, 15);
        other.set(2, 4, 15);
        due(other.told(2), 324);
        words("NONE.");
        due(last.told(10), NONE);
        due(last.told(-1), NONE);
        for (int far : FAR) due(last.told(far), NONE);
        endPromise();
    }

    static void dueTold(TightHulls t, int... all) {
        for (int what = 0; what < all.length; what++) due(t.told(what), all[what]);
        due(t.told(all.length), NONE);
    }

    static void functionOf() {
        promise("12: functionOf");
        words("Of THE FUNCTION the number of POINT what (0 ..), whether it KEEPS (10; 1, 0), is LEAST (11), DEPTH (12; -5).");
        TightHulls t = Edge.rectangle();
        Edge.numbers(t, 5, 5, 5, 5);
        due(t.functionOf(0), 5);
        due(t.functionOf(3), 5);
        dueFunction(t, 1, 1, 2);
        t.function(0, 6);
        dueFunction(t, 1, 0, NOT_ANY);
        t.function(0, 4);
        dueFunction(t, 0, 0, NOT_ANY);
        t.least(1, 0);
        dueFunction(t, 1, 1, 0);
        words("NONE.");
        for (int n = 3; n <= 5; n++) {
            t.points(n);
            due(t.functionOf(n - 1), 0);
            for (int what = n; what < 10; what++) due(t.functionOf(what), NONE);
            due(t.functionOf(13), NONE);
            due(t.functionOf(-1), NONE);
            for (int far : FAR) due(t.functionOf(far), NONE);
        }
        endPromise();
    }

    static void dueFunction(TightHulls t, int keeps, int least, int depth) {
        due(t.functionOf(10), keeps);
        due(t.functionOf(11), least);
        due(t.functionOf(12), depth);
    }

    static void mapOf() {
        promise("13: mapOf");
        words("Of the MAP what POINT what becomes (0 ..), whether it KEEPS DISTANCES (10; 1, 0), SHRINKS (11).");
        TightHulls t = Edge.rectangle();
        Edge.dueMap(t, 0, 1, 2, 3);
        due(t.mapOf(10), 1);
        due(t.mapOf(11), 1);
        Edge.map(t, 3, 3, 3, 3);
        Edge.dueMap(t, 3, 3, 3, 3);
        due(t.mapOf(10), 0);
        due(t.mapOf(11), 1);
        Edge.map(t, 0, 3, 2, 1);
        due(t.mapOf(10), 0);
        due(t.mapOf(11), 0);
        words("NONE.");
        for (int n = 3; n <= 5; n++) {
            t.points(n);
            due(t.mapOf(n - 1), n - 1);
            for (int what = n; what < 10; what++) due(t.mapOf(what), NONE);
            due(t.mapOf(12), NONE);
            due(t.mapOf(-1), NONE);
            for (int far : FAR) due(t.mapOf(far), NONE);
        }
        endPromise();
    }

    static void middle() {
        promise("14: middle");
        words("MIDDLE of the first of three POINTS.");
        due(Edge.with(3, 3, 4, 5).middle(0, 1, 2), 2);
        due(Edge.with(3, 3, 4, 5).middle(2, 1, 0), 6);
        due(Edge.pentagon().middle(4, 0, 1), 3);
        due(Edge.barred().middle(1, 2, 0), -3);
        words("NONE: any of them (they may be alike).");
        for (int n = 3; n <= 5; n++) {
            TightHulls t = Edge.even(n, 7);
            for (int p = 0; p < n; p++) {
                due(t.middle(p, p, p), 0);
                due(t.middle(p, p, (p + 1) % n), 0);
                due(t.middle(p, (p + 1) % n, p), 0);
                due(t.middle((p + 1) % n, p, p), 14);
            }
            due(t.middle(n, 0, 1), NONE);
            due(t.middle(0, n, 1), NONE);
            due(t.middle(0, 1, n), NONE);
            due(t.middle(n, n, n), NONE);
            due(t.middle(-1, 0, 1), NONE);
            due(t.middle(0, -1, 1), NONE);
            due(t.middle(0, 1, -1), NONE);
            for (int far : FAR) {
                due(t.middle(far, 0, 1), NONE);
                due(t.middle(0, far, 1), NONE);
                due(t.middle(0, 1, far), NONE);
            }
        }
        endPromise();
    }

    // ---- the hull

    static void corners() {
        promise("15: corners");
        words("How many CORNERS.");
        due(Edge.even(5, 0).corners(), 1);
        due(Edge.with(3, 0, 7, 7).corners(), 2);
        due(Edge.with(3, 1, 2, 1).corners(), 3);
        due(Edge.even(3, 1).corners(), 4);
        due(new TightHulls().corners(), 5);
        due(Edge.rectangle().corners(), 8);
        due(Edge.pentagon().corners(), 16);
        words("STATE: it isn't A TABLE.");
        due(Edge.with(3, 1, 3, 1).corners(), STATE);
        TightHulls t = new TightHulls();
        due(t.corners(), 5);
        t.set(2, 3, 5);
        due(t.corners(), STATE);
        t.set(2, 3, 4);
        due(t.corners() > 0 ? 1 : 0, 1);
        t.set(2, 3, 2);
        due(t.corners(), 5);
        endPromise();
    }

    static void at() {
        promise("16: at");
        words("The number of a POINT at a CORNER.");
        TightHulls t = Edge.rectangle();
        due(t.at(0, 0), 0);
        due(t.at(0, 3), 10);
        due(t.at(7, 0), 10);
        due(t.at(7, 3), 0);
        due(t.at(1, 0), 2);
        due(Edge.even(3, 40).at(3, 0), 80);
        due(Edge.even(3, 1).at(1, 2), 1);
        words("STATE; NONE: corner, point.");
        due(t.at(8, 0), NONE);
        due(t.at(-1, 0), NONE);
        due(t.at(0, 4), NONE);
        due(t.at(0, -1), NONE);
        due(t.at(8, 4), NONE);
        TightHulls no = Edge.barred();
        due(no.at(0, 0), STATE);
        due(no.at(-1, 0), STATE);
        due(no.at(0, 3), STATE);
        for (int far : FAR) {
            due(t.at(far, 0), NONE);
            due(t.at(0, far), NONE);
            due(no.at(far, far), STATE);
        }
        due(Edge.even(5, 0).at(0, 4), 0);
        due(Edge.even(5, 0).at(1, 4), NONE);
        endPromise();
    }

    static void corner() {
        promise("17: corner");
        words("Of a CORNER how many TIGHT twos (what 0), how many CORNERS are BESIDE it (1), whose EYE it is (2; the first POINT; -5: nobody's).");
        TightHulls t = Edge.rectangle();
        int[] beside = {1, 3, 3, 1, 3, 3, 1, 1};
        int[] eyes = {0, NOT_ANY, NOT_ANY, 1, NOT_ANY, NOT_ANY, 2, 3};
        for (int c = 0; c < 8; c++) {
            due(t.corner(c, 0), 4);
            due(t.corner(c, 1), beside[c]);
            due(t.corner(c, 2), eyes[c]);
        }
        due(Edge.even(5, 0).corner(0, 0), 15);
        due(Edge.even(5, 0).corner(0, 1), 0);
        due(Edge.even(5, 0).corner(0, 2), 0);
        due(Edge.even(3, 1).corner(1, 0), 3);
        due(Edge.with(3, 7, 7, 0).corner(0, 2), 0);
        due(Edge.with(3, 7, 7, 0).corner(1, 2), 1);
        due(Edge.with(3, 7, 0, 7).corner(0, 2), 0);
        words("STATE; NONE: corner, what.");
        due(t.corner(0, 3), NONE);
        due(t.corner(0, -1), NONE);
        due(t.corner(8, 0), NONE);
        due(t.corner(-1, 0), NONE);
        due(t.corner(8, 3), NONE);
        TightHulls no = Edge.barred();
        for (int what = -1; what <= 3; what++) due(no.corner(0, what), STATE);
        due(no.corner(-1, 0), STATE);
        for (int far : FAR) {
            due(t.corner(far, 0), NONE);
            due(t.corner(0, far), NONE);
            due(no.corner(far, far), STATE);
        }
        endPromise();
    }

    static void tight() {
        promise("18: tight");
        words("Whether two POINTS (or one and itself) are TIGHT at a CORNER (1, 0).");
        TightHulls t = Edge.rectangle();
        int[][] twos = {{0, 0}, {0, 1}, {0, 2}, {0, 3}, {1, 1}, {1, 2}, {1, 3}, {2, 2}, {2, 3}, {3, 3}};
        int[][] due = {{1, 1, 1, 1, 0, 0, 0, 0, 0, 0}, {0, 1, 1, 1, 0, 1, 0, 0, 0, 0}, {0, 1, 0, 1, 0, 1, 1, 0, 0, 0},
            {0, 1, 0, 0, 1, 1, 1, 0, 0, 0}, {0, 0, 1, 1, 0, 1, 0, 0, 1, 0}, {0, 0, 0, 1, 0, 1, 1, 0, 1, 0},
            {0, 0, 1, 0, 0, 1, 0, 1, 1, 0}, {0, 0, 0, 1, 0, 0, 1, 0, 1, 1}};
        for (int c = 0; c < due.length; c++) {
            for (int i = 0; i < twos.length; i++) {
                due(t.tight(c, twos[i][0], twos[i][1]), due[c][i]);
                due(t.tight(c, twos[i][1], twos[i][0]), due[c][i]);
            }
        }
        words("STATE; NONE: corner, either.");
        due(t.tight(8, 0, 0), NONE);
        due(t.tight(-1, 0, 0), NONE);
        due(t.tight(0, 4, 0), NONE);
        due(t.tight(0, 0, 4), NONE);
        due(t.tight(0, -1, 0), NONE);
        due(t.tight(0, 0, -1), NONE);
        due(t.tight(0, 4, 4), NONE);
        TightHulls no = Edge.barred();
        due(no.tight(0, 0, 0), STATE);
        due(no.tight(0, 3, 0), STATE);
        due(no.tight(-1, 0, 0), STATE);
        for (int far : FAR) {
            due(t.tight(far, 0, 0), NONE);
            due(t.tight(0, far, 0), NONE);
            due(t.tight(0, 0, far), NONE);
            due(no.tight(far, far, far), STATE);
        }
        TightHulls five = Edge.even(5, 0);
        due(five.tight(0, 4, 4), 1);
        due(five.tight(0, 5, 4), NONE);
        due(five.tight(0, 4, 5), NONE);
        endPromise();
    }

    static void two() {
        promise("19: two");
        words("APART of two CORNERS (what 0), whether they are BESIDE one another (1; 1, 0), how many TIGHT twos their CELL has (2).");
        TightHulls t = Edge.rectangle();
        int[][] due = {{0, 7, 10, 0, 1}, {7, 0, 10, 0, 1}, {0, 1, 2, 1, 3}, {1, 0, 2, 1, 3}, {1, 5, 6, 0, 2}, {6, 6, 0, 0, 4}};
        for (int[] row : due) for (int what = 0; what < 3; what++) due(t.two(row[0], row[1], what), row[2 + what]);
        words("STATE; NONE: either, what.");
        due(t.two(0, 1, 3), NONE);
        due(t.two(0, 1, -1), NONE);
        due(t.two(8, 0, 0), NONE);
        due(t.two(0, 8, 0), NONE);
        due(t.two(-1, 0, 0), NONE);
        due(t.two(0, -1, 0), NONE);
        due(t.two(8, 8, 3), NONE);
        TightHulls no = Edge.barred();
        due(no.two(0, 0, 0), STATE);
        due(no.two(0, 0, 3), STATE);
        due(no.two(-1, 0, 0), STATE);
        due(no.two(0, 99, 0), STATE);
        for (int far : FAR) {
            due(t.two(far, 0, 0), NONE);
            due(t.two(0, far, 0), NONE);
            due(t.two(0, 0, far), NONE);
            due(no.two(far, far, far), STATE);
        }
        endPromise();
    }

    static void eye() {
        promise("20: eye");
        words("The CORNER that is a POINT's EYE.");
        int[] eyes = {0, 3, 6, 7};
        for (int p = 0; p < 4; p++) due(Edge.rectangle().eye(p), eyes[p]);
        due(Edge.even(5, 0).eye(0), 0);
        due(Edge.even(5, 0).eye(4), 0);
        due(Edge.even(5, 2).eye(4), 5);
        words("STATE; NONE: point.");
        TightHulls t = new TightHulls();
        for (int n = 3; n <= 5; n++) {
            t.points(n);
            due(t.eye(n - 1), n);
            due(t.eye(n), NONE);
            due(t.eye(-1), NONE);
            for (int far : FAR) due(t.eye(far), NONE);
        }
        TightHulls no = Edge.barred();
        for (int p = -1; p <= 3; p++) due(no.eye(p), STATE);
        for (int far : FAR) due(no.eye(far), STATE);
        endPromise();
    }

    // ---- splits, seen, odds

    static void weight() {
        promise("21: weight");
        words("WEIGHT of a SPLIT IN HALVES.");
        int[] weights = {2, 2, 0, 2, 2, 4, 2};
        for (int i = 0; i < 7; i++) due(Edge.rectangle().weight(2 * i + 2), weights[i]);
        due(Edge.with(3, 40, 40, 0).weight(6), 80);
        due(Edge.barred().weight(2), 0);
        words("NONE: no SPLIT.");
        for (int n = 3; n <= 5; n++) {
            TightHulls t = Edge.even(n, 1);
            due(t.weight(2), 1);
            due(t.weight(1 << n - 1), 1);
            due(t.weight((1 << n) - 2), 1);
            due(t.weight((1 << n) - 1), NONE);
            due(t.weight(1 << n), NONE);
            due(t.weight((1 << n) + 2), NONE);
            due(t.weight(1), NONE);
            due(t.weight(3), NONE);
            due(t.weight(0), NONE);
            for (int far : FAR) due(t.weight(far), NONE);
        }
        endPromise();
    }

    static void split() {
        promise("22: split");
        words("SPLIT i of those that COUNT (what 0; bits), its WEIGHT (1); -5: there are not as many.");
        TightHulls t = Edge.rectangle();
        int[] bits = {12, 2, 4, 8, 10, 14};
        int[] weights = {4, 2, 2, 2, 2, 2};
        for (int i = 0; i < 6; i++) {
            due(t.split(i, 0), bits[i]);
            due(t.split(i, 1), weights[i]);
        }
        for (int what = 0; what < 2; what++) {
            due(t.split(6, what), NOT_ANY);
            due(t.split(7, what), NOT_ANY);
            due(t.split(MAX, what), NOT_ANY);
            due(Edge.even(3, 0).split(0, what), NOT_ANY);
        }
        words("NONE: i below 0, what.");
        for (int what = 0; what < 2; what++) {
            due(t.split(-1, what), NONE);
            due(t.split(MIN, what), NONE);
        }
        for (int i = -1; i < 7; i++) {
            due(t.split(i, 2), NONE);
            due(t.split(i, -1), NONE);
            due(t.split(i, MIN), NONE);
            due(t.split(i, MAX), NONE);
        }
        due(Edge.even(3, 0).split(0, 2), NONE);
        endPromise();
    }

    static void see() {
        promise("23: see");
        words("What is SEEN comes: how many there are (split -1: none then, 0, whatever the rest is).");
        TightHulls t = new TightHulls();
        due(t.see(-1, 0), 0);
        due(t.see(2, 0), 1);
        due(t.see(14, 99), 2);
        due(t.see(14, 99), 3);
        due(t.see(-1, 100), 0);
        due(t.count(0), 0);
        for (int v : new int[] {MIN, -1, 0, 99, 100, MAX}) {
            t.see(2, 1);
            due(t.see(-1, v), 0);
            due(t.count(0), 0);
        }
        words("NONE: no SPLIT; BAD: v; FULL: 4.");
        for (int n = 3; n <= 5; n++) {
            t.points(n);
            due(t.see(-1, 0), 0);
            for (int fill = 0; fill <= 4; fill++) {
                due(t.see(0, 1), NONE);
                due(t.see(1, 1), NONE);
                due(t.see(3, 1), NONE);
                due(t.see(-2, 1), NONE);
                due(t.see(1 << n, 1), NONE);
                due(t.see((1 << n) - 1, 1), NONE);
                due(t.see(1 << n, 100), NONE);
                due(t.see(0, -1), NONE);
                due(t.see(2, 100), BAD);
                due(t.see((1 << n) - 2, -1), BAD);
                due(t.count(0), fill);
                due(t.see((1 << n) - 2, 99), fill < 4 ? fill + 1 : FULL);
            }
            due(t.see(2, 0), FULL);
        }
        for (int far : FAR) if (far != -1) due(t.see(far, 1), NONE);
        for (int far : FAR) if (far < 0 || far > 99) due(t.see(2, far), BAD);
        due(t.count(0), 4);
        endPromise();
    }

    static void fits() {
        promise("24: fits");
        words("FITS: what 0 how many, 1 the least (-5).");
        TightHulls t = Edge.rectangle();
        due(t.fits(0, 1, 0), 9);
        due(t.fits(0, 1, 1), 1);
        t.see(6, 2);
        due(t.fits(1, 0, 0), 1);
        due(t.fits(1, 0, 1), 9);
        t.see(6, 3);
        due(t.fits(0, 1, 0), 0);
        due(t.fits(0, 1, 1), NOT_ANY);
        TightHulls all = Edge.with(3, 7, 40, 40);
        due(all.fits(0, 1, 0), 41);
        due(all.fits(0, 1, 1), 0);
        TightHulls none = Edge.with(4, 9, 1, 40, 1, 1, 1);
        due(none.fits(0, 1, 0), 0);
        due(none.fits(0, 1, 1), NOT_ANY);
        words("NONE: no two unlike POINTS, what.");
        for (int n = 3; n <= 5; n++) {
            TightHulls u = Edge.even(n, 7);
            due(u.fits(n - 1, 0, 0), 15);
            for (int what = 0; what < 2; what++) {
                due(u.fits(n, 0, what), NONE);
                due(u.fits(0, n, what), NONE);
                due(u.fits(-1, 0, what), NONE);
                due(u.fits(0, -1, what), NONE);
                for (int p = 0; p < n; p++) due(u.fits(p, p, what), NONE);
            }
            due(u.fits(0, 1, 2), NONE);
            due(u.fits(0, 1, -1), NONE);
            due(u.fits(0, 0, 2), NONE);
            for (int far : FAR) {
                due(u.fits(far, 0, 0), NONE);
                due(u.fits(0, far, 0), NONE);
                due(u.fits(0, 1, far), NONE);
            }
        }
        words("(What is SEEN of what is no SPLIT any more is not so.)");
        TightHulls gone = new TightHulls();
        gone.see(8, 0);
        due(gone.fits(0, 1, 0), 1);
        due(gone.fits(0, 1, 1), 4);
        gone.points(3);
        due(gone.fits(0, 1, 0), 0);
        due(gone.fits(0, 1, 1), NOT_ANY);
        gone.points(4);
        due(gone.fits(0, 1, 0), 1);
        gone.points(3);
        gone.see(-1, 0);
        due(gone.fits(0, 1, 0), 5);
        gone.see(6, 2);
        due(gone.fits(0, 1, 0), 1);
        due(gone.fits(0, 1, 1), 2);
        endPromise();
    }

    static void odds() {
        promise("25: odds");
        words("ODDS; part 0 above, 1 below the line.");
        due(Edge.rectangle().odds(0, 3, 0), 2);
        due(Edge.rectangle().odds(0, 3, 1), 3);
        due(Edge.with(3, 0, 7, 7).odds(0, 1, 0), 0);
        due(Edge.with(3, 0, 7, 7).odds(0, 1, 1), 1);
        due(Edge.with(3, 0, 7, 7).odds(1, 2, 0), 1);
        due(Edge.with(3, 0, 7, 7).odds(1, 2, 1), 1);
        words("NO: no two unlike POINTS, part.");
        for (int n = 3; n <= 5; n++) {
            TightHulls t = Edge.even(n, 7);
            due(t.odds(n - 1, 0, 0), n == 4 ? 1 : 2);
            due(t.odds(n - 1, 0, 1), n == 4 ? 2 : n);
            for (int part = 0; part < 2; part++) {
                due(t.odds(n, 0, part), NO);
                due(t.odds(0, n, part), NO);
                due(t.odds(-1, 0, part), NO);
                due(t.odds(0, -1, part), NO);
                for (int p = 0; p < n; p++) due(t.odds(p, p, part), NO);
            }
            due(t.odds(0, 1, 2), NO);
            due(t.odds(0, 1, -1), NO);
            for (int far : FAR) {
                due(t.odds(far, 0, 0), NO);
                due(t.odds(0, far, 0), NO);
                due(t.odds(0, 1, far), NO);
            }
        }
        due(Edge.even(3, 0).odds(0, 1, 0), NO);
        due(Edge.even(3, 0).odds(0, 1, 1), NO);
        endPromise();
    }

    static void mean() {
        promise("26: mean");
        words("MEAN; part likewise.");
        due(Edge.rectangle().mean(0), 4);
        due(Edge.rectangle().mean(1), 1);
        due(Edge.pentagon().mean(0), 5);
        due(Edge.pentagon().mean(1), 2);
        due(Edge.even(5, 0).mean(0), 0);
        due(Edge.even(5, 0).mean(1), 1);
        words("NO: part.");
        due(Edge.rectangle().mean(2), NO);
        due(Edge.rectangle().mean(-1), NO);
        due(Edge.even(3, 0).mean(2), NO);
        for (int far : FAR) due(Edge.rectangle().mean(far), NO);
        endPromise();
    }

    // ---- events, books

    static void event() {
        promise("27: event");
        words("A row comes to EVENTS: how many there are (what -1: none then, 0, whatever the rest is).");
        TightHulls t = new TightHulls();
        due(t.event(-1, 0), 0);
        due(t.event(0, 0), 1);
        due(t.event(1, 9), 2);
        due(t.event(2, 0), 3);
        due(t.event(2, 0), 4);
        for (int n : new int[] {MIN, -1, 0, 4, 9, 10, MAX}) {
            due(t.event(-1, n), 0);
            due(t.count(1), 0);
            due(t.event(1, 0), 1);
        }
        words("NONE: what (0 .. 2), POINT n (0); BAD: n by 1, 2; FULL: 8.");
        t.event(-1, 0);
        for (int fill = 0; fill <= 8; fill++) {
            due(t.event(3, 0), NONE);
            due(t.event(-2, 0), NONE);
            due(t.event(3, 10), NONE);
            due(t.event(0, 4), NONE);
            due(t.event(0, -1), NONE);
            due(t.event(1, 10), BAD);
            due(t.event(1, -1), BAD);
            due(t.event(2, 1), BAD);
            due(t.event(2, -1), BAD);
            due(t.count(1), fill);
            due(t.event(fill % 3, fill % 3 == 0 ? 3 : fill % 3 == 1 ? 9 : 0), fill < 8 ? fill + 1 : FULL);
        }
        due(t.event(0, 0), FULL);
        due(t.event(1, 0), FULL);
        due(t.event(2, 0), FULL);
        for (int far : FAR) {
            if (far != -1) due(t.event(far, 0), NONE);
            due(t.event(0, far), NONE);
            due(t.event(1, far), BAD);
            due(t.event(2, far), BAD);
        }
        for (int n = 3; n <= 5; n++) {
            t.points(n);
            t.event(-1, 0);
            due(t.event(0, n - 1), 1);
            due(t.event(0, n), NONE);
        }
        due(t.count(1), 1);
        endPromise();
    }

    static void after() {
        promise("28: after");
        words("AFTER: what 0 whether it is A TABLE, 1 how many SPLITS COUNT, 2 whether IT IS A TREE.");
        TightHulls t = Edge.barred();
        dueAfter(t, 0, 2, 0);
        t.event(2, 0);
        dueAfter(t, 1, 2, 1);
        t.event(0, 1);
        dueAfter(t, 1, 3, 1);
        Edge.dueGaps(t, 1, 5, 1);
        dueAfter(Edge.rectangle(), 1, 6, 0);
        words("NONE.");
        due(t.after(3), NONE);
        due(t.after(-1), NONE);
        for (int far : FAR) due(t.after(far), NONE);
        endPromise();
    }

    static void dueAfter(TightHulls t, int table, int count, int tree) {
        due(t.after(0), table);
        due(t.after(1), count);
        due(t.after(2), tree);
    }

    static void book() {
        promise("29: book");
        words("A row comes to the BOOK: how many there are (x -1: it is empty then, 0, whatever the rest is).");
        TightHulls t = new TightHulls();
        due(t.book(-1, 0, 0), 0);
        due(t.book(0, 1, 0), 1);
        due(t.book(0, 1, 40), 2);
        due(t.book(3, 2, 1), 3);
        int[][] rests = {{0, 0}, {-1, -1}, {4, 41}, {MIN, MAX}, {MAX, MIN}};
        for (int[] rest : rests) {
            due(t.book(-1, rest[0], rest[1]), 0);
            due(t.count(2), 0);
            due(t.book(0, 1, 3), 1);
        }
        words("NONE: no two unlike POINTS; BAD: v (0 .. 40); FULL: 8.");
        t.book(-1, 0, 0);
        for (int fill = 0; fill <= 8; fill++) {
            due(t.book(0, 0, 1), NONE);
            due(t.book(3, 3, 41), NONE);
            due(t.book(0, 4, 1), NONE);
            due(t.book(4, 0, 41), NONE);
            due(t.book(-2, 0, 1), NONE);
            due(t.book(0, -1, 1), NONE);
            due(t.book(0, 1, 41), BAD);
            due(t.book(0, 1, -1), BAD);
            due(t.count(2), fill);
            due(t.book(3, 0, fill % 2 * 40), fill < 8 ? fill + 1 : FULL);
        }
        due(t.book(0, 1, 0), FULL);
        for (int far : FAR) {
            if (far != -1) due(t.book(far, 0, 1), NONE);
            due(t.book(0, far, 1), NONE);
            due(t.book(0, 1, far), BAD);
        }
        for (int n = 3; n <= 5; n++) {
            t.points(n);
            t.book(-1, 0, 0);
            due(t.book(0, n - 1, 1), 1);
            due(t.book(n - 1, 0, 1), 2);
            due(t.book(0, n, 1), NONE);
            due(t.book(n, 0, 1), NONE);
        }
        due(t.count(2), 2);
        endPromise();
    }

    static void looked() {
        promise("30: looked");
        words("LOOKED at; -5.");
        TightHulls t = new TightHulls();
        due(t.looked(), NOT_ANY);
        for (int row = 0; row < 8; row++) {
            t.book(2, 3, 2);
            due(t.looked(), NOT_ANY);
        }
        t.set(2, 3, 1);
        due(t.looked(), 0);
        for (int row = 0; row < 8; row++) {
            TightHulls u = new TightHulls();
            for (int i = 0; i < 8; i++) u.book(0, 1, i < row ? 2 : 3);
            due(u.looked(), row);
            u.book(-1, 0, 0);
            due(u.looked(), NOT_ANY);
        }
        endPromise();
    }

    // ---- judging, the image, tapes

    static void judge() {
        promise("31: judge");
        words("JUDGED from place i of a TAPE on.");
        TightHulls t = Edge.rectangle();
        Edge.row(t, 0, 2, 0, 3, 4, 5, 5, 4, 3);
        due(t.judge(0, 1), NOT_ANY);
        due(t.judge(0, 0), 1);
        due(t.judge(0, 2), 1);
        due(t.judge(0, 6), 101);
        due(t.judge(0, 7), 100);
        due(t.judge(0, -1), 100);
        due(t.judge(0, MAX), 100);
        due(t.judge(0, MIN), 100);
        due(t.judge(5, 0), 100);
        due(t.judge(5, -1), 100);
        Edge.row(t, 0, 2, 3, 4, 5, 5, 4);
        due(t.judge(0, 0), 105);
        Edge.row(t, 0, 2, 3, 4, 5, 5, 4, 2);
        due(t.judge(0, 0), 23);
        words("NONE: tape; CAST: it is no row of ints.");
        due(t.judge(6, 0), NONE);
        due(t.judge(-1, 0), NONE);
        due(t.judge(6, -1), NONE);
        for (int far : FAR) due(t.judge(far, 0), NONE);
        int[] sorts = {0, 1, 3, 4};
        for (int tape = 0; tape <= 5; tape++) {
            for (int sort : sorts) {
                t.tape(tape, sort, 6);
                due(t.judge(tape, 0), CAST);
                due(t.judge(tape, -1), CAST);
                due(t.judge(tape, 6), CAST);
                t.tape(tape, sort, 0);
                due(t.judge(tape, 0), CAST);
            }
            t.tape(tape, 2, 0);
            due(t.judge(tape, 0), 100);
            t.tape(tape, -1, 0);
            due(t.judge(tape, 0), 100);
        }
        endPromise();
    }

    static void image() {
        promise("32: image");
        words("THE IMAGE is taken: GIRTH.");
        TightHulls t = Edge.even(5, 0);
        due(t.image(), 0);
        t.set(0, 1, 40);
        due(t.undo(), 0);
        due(t.of(0, 1, 0), 0);
        t.points(3);
        due(t.image(), 6);
        t.set(0, 1, 40);
        due(t.undo(), 6);
        due(t.told(0), 3);
        due(t.of(0, 1, 0), 2);
        due(Edge.even(5, 40).image(), 400);
        endPromise();
    }

    static void undo() {
        promise("33: undo");
        words("All is as THE IMAGE (THE TEXT and the TAPES stay as they are): GIRTH.");
        TightHulls t = new TightHulls();
        Edge.numbers(t, 1, 2, 3, 4);
        Edge.map(t, 1, 1, 1, 1);
        t.set(2, 3, 9);
        t.see(2, 2);
        t.event(1, 9);
        t.book(0, 1, 3);
        due(t.image(), 19);
        for (int turn = 0; turn < 2; turn++) {
            t.points(5);
            for (int i = 0; i < 8; i++) {
                t.see(16, 1);
                t.event(0, 4);
                t.book(3, 4, 1);
            }
            Edge.feed(t, "h");
            Edge.row(t, turn, 2, 7, 8);
            due(t.undo(), 19);
            due(t.told(0), 4);
            Edge.dueGaps(t, 2, 2, 2, 2, 2, 9);
            Edge.dueNumbers(t, 1, 2, 3, 4);
            Edge.dueMap(t, 1, 1, 1, 1);
            Edge.dueCounts(t, 1, 1, 1, 1 + turn);
            due(t.looked(), 0);
            due(t.after(1), 0);
            Edge.dueRow(t, turn, 7, 8);
        }
        Edge.dueRow(t, 0, 7, 8);
        due(t.read(), -11);
        words("STATE: there is none.");
        due(new TightHulls().undo(), STATE);
        TightHulls none = Edge.rectangle();
        none.function(0, 9);
        due(none.undo(), STATE);
        Edge.dueGaps(none, 3, 4, 5, 5, 4, 3);
        due(none.functionOf(0), 9);
        none.image();
        due(none.undo(), 24);
        due(none.undo(), 24);
        endPromise();
    }

    static void count() {
        promise("34: count");
        words("How many: 0 SEEN, 1 EVENTS, 2 of the BOOK, 3 bytes of THE TEXT.");
        TightHulls t = new TightHulls();
        Edge.dueCounts(t, 0, 0, 0, 0);
        for (int many = 1; many <= 101; many++) {
            t.feed('h');
            if (many <= 9) {
                t.see(2, 2);
                t.event(2, 0);
                t.book(0, 1, 2);
            }
            if (many <= 9 || many >= 99) {
                Edge.dueCounts(t, Math.min(many, 4), Math.min(many, 8), Math.min(many, 8), Math.min(many, 100));
            }
        }
        words("BAD.");
        due(t.count(4), BAD);
        due(t.count(-1), BAD);
        for (int far : FAR) due(t.count(far), BAD);
        endPromise();
    }

    static void tape() {
        promise("35: tape");
        words("A TAPE becomes a row of n (0 .. 60) of a sort, all 0, or holds nothing (sort -1: n does not matter): 1.");
        TightHulls t = new TightHulls();
        for (int tape = 0; tape <= 5; tape++) {
            for (int sort = 0; sort <= 4; sort++) {
                due(t.tape(tape, sort, 60), 1);
                due(t.item(tape, 59, 1), 1);
                due(t.peek(tape, 59), 1);
                due(t.peek(tape, 60), NO);
                due(t.tape(tape, sort, 60), 1);
                due(t.peek(tape, 59), 0);
                due(t.tape(tape, sort, 0), 1);
                due(t.peek(tape, 0), NO);
                due(t.item(tape, 0, 1), PLACE);
            }
        }
        // what was there before is gone, in a longer row, too
        Edge.row(t, 0, 3, 1, 2, 3);
        t.tape(0, 3, 1);
        t.tape(0, 3, 3);
        Edge.dueRow(t, 0, 0, 0, 0);
        for (int n : new int[] {MIN, -1, 0, 60, 61, MAX}) {
            t.tape(0, 3, 1);
            due(t.tape(0, -1, n), 1);
            due(t.peek(0, 0), NO);
            due(t.item(0, 0, 0), NOTHING);
        }
        words("NONE: tape; BAD: sort, n above 60; SIZE.");
        Edge.row(t, 5, 0, 7);
        due(t.tape(6, 0, 1), NONE);
        due(t.tape(-1, 0, 1), NONE);
        due(t.tape(6, 5, 61), NONE);
        due(t.tape(6, -1, 0), NONE);
        due(t.tape(-1, -1, 0), NONE);
        due(t.tape(5, 5, 1), BAD);
        due(t.tape(5, -2, 1), BAD);
        due(t.tape(5, 5, -1), BAD);
        due(t.tape(5, -2, -1), BAD);
        due(t.tape(5, 0, 61), BAD);
        due(t.tape(5, 4, 61), BAD);
        due(t.tape(5, 0, -1), SIZE);
        due(t.tape(5, 4, -1), SIZE);
        due(t.tape(5, 4, MIN), SIZE);
        due(t.tape(5, 4, MAX), BAD);
        for (int far : FAR) {
            due(t.tape(far, 0, 1), NONE);
            if (far != -1) due(t.tape(5, far, 1), BAD);
            if (far != 60) due(t.tape(5, 2, far), far < 0 ? SIZE : BAD);
        }
        Edge.dueRow(t, 5, 7);
        endPromise();
    }

    static void item() {
        promise("36: item");
        words("Item i of a TAPE becomes v (its lowest bits, as many as an item has; booleans: whether v is not 0): 1.");
        TightHulls t = new TightHulls();
        long v = 0x8182838485868788L;
        long[] kept = {(byte) 0x88, (short) 0x8788, 0x85868788, v, 1};
        for (int sort = 0; sort <= 4; sort++) {
            t.tape(sort, sort, 3);
            due(t.item(sort, 0, v), 1);
            due(t.item(sort, 2, -1), 1);
            Edge.dueRow(t, sort, kept[sort], 0, sort == 4 ? 1 : -1);
            due(t.item(sort, 0, 0), 1);
            due(t.item(sort, 2, 1L << (sort == 4 ? 63 : 8 << sort) % 64), 1);
            Edge.dueRow(t, sort, 0, 0, sort < 3 ? 0 : 1);
        }
        words("NONE; NOTHING; PLACE.");
        for (int sort = 0; sort <= 4; sort++) {
            for (int n = 0; n <= 60; n += 20) {
                t.tape(0, sort, n);
                due(t.item(0, n - 1, 1), n == 0 ? PLACE : 1);
                due(t.item(0, n, 1), PLACE);
                due(t.item(0, -1, 1), PLACE);
            }
        }
        due(t.item(5, 0, 1), NOTHING);
        due(t.item(5, -1, 1), NOTHING);
        due(t.item(5, 60, 1), NOTHING);
        due(t.item(6, 0, 1), NONE);
        due(t.item(-1, 0, 1), NONE);
        due(t.item(6, -1, 1), NONE);
        for (int far : FAR) {
            due(t.item(far, 0, 1), NONE);
            due(t.item(0, far, 1), PLACE);
            due(t.item(5, far, 1), NOTHING);
        }
        endPromise();
    }

    static void peek() {
        promise("37: peek");
        words("Item i of a TAPE.");
        TightHulls t = new TightHulls();
        for (int tape = 0; tape <= 5; tape++) {
            t.tape(tape, 3, 60);
            t.item(tape, 0, tape + 1);
            t.item(tape, 59, Long.MAX_VALUE - tape);
        }
        for (int tape = 0; tape <= 5; tape++) {
            due(t.peek(tape, 0), tape + 1);
            due(t.peek(tape, 1), 0);
            due(t.peek(tape, 59), Long.MAX_VALUE - tape);
        }
        words("NO: no such TAPE, nothing there, no such place.");
        due(t.peek(0, 60), NO);
        due(t.peek(0, -1), NO);
        due(t.peek(6, 0), NO);
        due(t.peek(-1, 0), NO);
        for (int far : FAR) {
            due(t.peek(far, 0), NO);
            due(t.peek(0, far), NO);
        }
        t.tape(0, 3, 1);
        due(t.peek(0, 0), 0);
        due(t.peek(0, 1), NO);
        t.tape(0, 3, 0);
        due(t.peek(0, 0), NO);
        t.tape(5, -1, 0);
        due(t.peek(5, 0), NO);
        due(t.peek(5, 59), NO);
        endPromise();
    }

    static void shift() {
        promise("38: shift");
        words("n items of a TAPE from i on come to another one (or the same) from j on, as they all were before: n.");
        TightHulls t = new TightHulls();
        for (int sort = 0; sort <= 4; sort++) {
            Edge.row(t, 0, sort, 1, 1, 0, 1);
            Edge.row(t, 5, sort, 0, 0, 0);
            due(t.shift(0, 1, 5, 0, 3), 3);
            Edge.dueRow(t, 5, 1, 0, 1);
            Edge.dueRow(t, 0, 1, 1, 0, 1);
        }
        // onto itself, up, down and where it is
        Edge.row(t, 1, 3, 1, 2, 3, 4, 5);
        due(t.shift(1, 0, 1, 1, 4), 4);
        Edge.dueRow(t, 1, 1, 1, 2, 3, 4);
        Edge.row(t, 1, 3, 1, 2, 3, 4, 5);
        due(t.shift(1, 1, 1, 0, 4), 4);
        Edge.dueRow(t, 1, 2, 3, 4, 5, 5);
        due(t.shift(1, 0, 1, 0, 5), 5);
        Edge.dueRow(t, 1, 2, 3, 4, 5, 5);
        due(t.shift(1, 4, 1, 0, 1), 1);
        Edge.dueRow(t, 1, 5, 3, 4, 5, 5);
        // none, at the ends, too
        Edge.row(t, 2, 3, 9);
        due(t.shift(1, 5, 2, 1, 0), 0);
        due(t.shift(1, 0, 2, 0, 0), 0);
        Edge.dueRow(t, 1, 5, 3, 4, 5, 5);
        Edge.dueRow(t, 2, 9);
        t.tape(3, 3, 0);
        due(t.shift(3, 0, 3, 0, 0), 0);
        due(t.shift(3, 0, 2, 1, 0), 0);
        t.tape(3, 0, 60);
        t.tape(4, 0, 60);
        t.item(3, 59, 5);
        due(t.shift(3, 0, 4, 0, 60), 60);
        due(t.peek(4, 59), 5);
        refusedShifts();
        endPromise();
    }

    static void refusedShifts() {
        words("NONE: tapes; NOTHING; CAST: of unlike sorts; PLACE: n, i or j is below 0, or beyond either's end.");
        TightHulls t = new TightHulls();
        Edge.row(t, 0, 1, 1, 2, 3);
        Edge.row(t, 1, 1, 4, 5);
        Edge.row(t, 2, 2, 6, 7, 8);
        for (int far : FAR) {
            due(t.shift(far, 0, 0, 0, 1), NONE);
            due(t.shift(0, 0, far, 0, 1), NONE);
            due(t.shift(0, far, 1, 0, 1), PLACE);
            due(t.shift(0, 0, 1, far, 1), PLACE);
            due(t.shift(0, 0, 1, 0, far), PLACE);
        }
        due(t.shift(6, 0, 5, 0, 1), NONE);
        due(t.shift(5, 0, 6, 0, 1), NONE);
        due(t.shift(-1, -1, 0, -1, -1), NONE);
        due(t.shift(5, 0, 0, 0, 1), NOTHING);
        due(t.shift(0, 0, 5, 0, 1), NOTHING);
        due(t.shift(5, 0, 5, 0, 0), NOTHING);
        due(t.shift(5, -1, 0, -1, -1), NOTHING);
        due(t.shift(0, 0, 2, 0, 1), CAST);
        due(t.shift(2, 0, 0, 0, 1), CAST);
        due(t.shift(2, 0, 0, 0, 0), CAST);
        due(t.shift(2, -1, 0, -1, -1), CAST);
        due(t.shift(0, 9, 2, 9, 9), CAST);
        // the last that goes, the first that doesn't: n, i, j
        due(t.shift(1, 0, 0, 0, 3), PLACE);
        due(t.shift(0, 0, 1, 0, 3), PLACE);
        due(t.shift(0, 2, 1, 0, 2), PLACE);
        due(t.shift(1, 0, 0, 2, 2), PLACE);
        due(t.shift(0, 4, 1, 0, 0), PLACE);
        due(t.shift(0, 0, 1, 3, 0), PLACE);
        due(t.shift(0, -1, 1, 0, 1), PLACE);
        due(t.shift(0, -1, 1, 0, 0), PLACE);
        due(t.shift(0, 0, 1, -1, 1), PLACE);
        due(t.shift(0, 0, 1, -1, 0), PLACE);
        due(t.shift(0, 0, 1, 0, -1), PLACE);
        due(t.shift(0, 1, 0, 1, 3), PLACE);
        due(t.shift(0, MAX, 1, 0, MAX), PLACE);
        due(t.shift(0, 1, 1, MAX, MAX), PLACE);
        Edge.dueRow(t, 0, 1, 2, 3);
        Edge.dueRow(t, 1, 4, 5);
        Edge.dueRow(t, 2, 6, 7, 8);
        due(t.shift(0, 1, 1, 0, 2), 2);
        due(t.shift(1, 0, 0, 1, 2), 2);
        Edge.dueRow(t, 1, 2, 3);
        // the sort that a TAPE has now counts
        t.tape(2, 1, 1);
        due(t.shift(0, 0, 2, 0, 1), 1);
        t.tape(0, -1, 0);
        due(t.shift(0, 0, 2, 0, 1), NOTHING);
    }
}
