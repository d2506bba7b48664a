import java.lang.reflect.InvocationTargetException;
import java.lang.reflect.Method;

/**
 * "What is answered so changes nothing; what is asked changes nothing": of two objects made alike the one is asked, or
 * refuses, the other one isn't; all that can be told of the two afterwards is the same.
 */
public final class UnchangedTest {
    static final int NONE = Edge.NONE, BAD = Edge.BAD, STATE = Edge.STATE, FULL = Edge.FULL;
    static final int NOTHING = Edge.NOTHING, CAST = Edge.CAST, PLACE = Edge.PLACE, SIZE = Edge.SIZE;
    static final int MIN = Edge.MIN, MAX = Edge.MAX;
    /** The states that objects are made in. */
    static final int NEW = 0, PARTLY = 1, WHOLE = 2, NO_TABLE = 3, STATES = 4;
    static final String[] ASKED = {"of", "told", "functionOf", "mapOf", "middle", "corners", "at", "corner", "tight", "two",
        "eye", "weight", "split", "fits", "odds", "mean", "after", "looked", "judge", "count", "peek"};

    interface Call { long on(TightHulls t); }

    public static void main(String[] args) throws IllegalAccessException {
        Edge.section("Terms");
        Edge.words("What is answered so changes nothing; what is asked changes nothing.");
        looksTell();
        for (int state = 0; state < STATES; state++) {
            asked(state);
            refusedDistances(state);
            refusedRows(state);
            refusedTapes(state);
            faults(state);
            imageTaken(state);
        }
        refusedFull();
        Edge.end();
    }

    // ---- objects made alike

    static TightHulls made(int state) {
        TightHulls t = state == PARTLY ? Edge.pentagon() : state == WHOLE ? Edge.rectangle() : new TightHulls();
        if (state == NO_TABLE) {
            t.points(3);
            t.set(0, 2, 9);
        }
        if (state == NEW) return t;
        int n = t.told(0);
        int rows = state == WHOLE ? 8 : 3;
        Edge.numbers(t, 9, 8, 160);
        Edge.map(t, 2, 0, 0);
        for (int i = 0; i < rows; i++) {
            int split = 2 << i % (n - 1);
            if (i < 2 || state == WHOLE) t.see(split, t.weight(split));
            t.event(i % 3, i % 3 == 1 ? i : 0);
            int x = i % n, y = (i + 1) % n;
            t.book(x, y, t.of(x, y, 0));
        }
        for (int sort = 0; sort <= 4; sort++) {
            t.tape(sort, sort, sort == 2 ? 12 : 3);
            for (int i = 0; i < 3; i++) t.item(sort, i, 5 - i);
        }
        for (int i = 0; i < (state == WHOLE ? 100 : 5); i++) t.feed(i % 2 == 0 ? 'h' : ';');
        if (state != WHOLE) {
            t.image();
            t.function(0, 7);
            t.map(0, 1);
            t.set(0, 1, t.of(0, 1, 0) + 1);
            t.see(4, t.weight(4));
            t.event(-1, 0);
            t.event(0, 2);
            t.book(1, 2, 40);
        }
        return t;
    }

    // ---- all that can be told

    static final class Look {
        final TightHulls t;
        final StringBuilder told = new StringBuilder();

        Look(TightHulls t) {
            this.t = t;
        }

        void tell(String what, long answer) {
            told.append(what).append(' ').append(answer).append("; ");
        }

        void figures() {
            for (int w = 0; w <= 9; w++) tell("told " + w, t.told(w));
            for (int w = 0; w <= 12; w++) if (w < 5 || w > 9) tell("functionOf " + w, t.functionOf(w));
            for (int w = 0; w <= 11; w++) if (w < 5 || w > 9) tell("mapOf " + w, t.mapOf(w));
            int n = t.told(0);
            for (int x = 0; x < n; x++) for (int y = x + 1; y < n; y++) tell("of " + x + " " + y, t.of(x, y, 0));
            for (int w = 0; w < 4; w++) tell("count " + w, t.count(w));
        }

        void rows() {
            int n = t.told(0);
            for (int x = 0; x < n; x++) {
                for (int y = x + 1; y < n; y++) {
                    tell("fits " + x + " " + y, t.fits(x, y, 0));
                    tell("least that fits " + x + " " + y, t.fits(x, y, 1));
                }
            }
            tell("looked", t.looked());
            for (int w = 0; w < 3; w++) tell("after " + w, t.after(w));
        }

        /** By the items that a TAPE takes it is told of what sort and how long it is. */
        void tapes() {
            for (int k = 0; k <= 5; k++) {
                for (int i = 0; i < 4; i++) tell("peek " + k + " " + i, t.peek(k, i));
                tell("peek " + k, t.peek(k, 12));
                t.item(k, 0, 0x8182838485868788L);
                tell("peek behind item " + k, t.peek(k, 0));
            }
        }

        void text() {
            tell("read", t.read());
            tell("count behind read", t.count(3));
            tell("girth behind read", t.told(6));
        }

        /** EVENTS and the BOOK by what they make of other DISTANCES. */
        void others() {
            int n = t.told(0);
            for (int gap = 0; gap <= 12; gap += 6) {
                for (int x = 0; x < n; x++) {
                    for (int y = x + 1; y < n; y++) {
                        t.set(x, y, gap + x);
                        if (gap == 0) tell("looked behind set " + x + " " + y, t.looked());
                    }
                }
                for (int w = 0; w < 3; w++) tell("after " + w + " by " + gap, t.after(w));
            }
        }
    }

    /** All but what undo() brings back. */
    static String lookNow(TightHulls t) {
        Look look = new Look(t);
        look.figures();
        look.rows();
        look.tapes();
        look.text();
        look.others();
        return look.told.toString();
    }

    static String look(TightHulls t) {
        Look look = new Look(t);
        look.told.append(lookNow(t));
        look.tell("undo", t.undo());
        look.figures();
        look.rows();
        return look.told.toString();
    }

    /** A look tells when anything at all is otherwise; else it would be no use here. */
    static void looksTell() {
        String plain = look(made(PARTLY));
        Edge.due(plain.equals(look(made(PARTLY))), "objects made alike look alike");
        Call[] changes = {t -> t.points(5), t -> t.set(3, 4, 40), t -> t.function(4, 1), t -> t.least(0, 0),
            t -> t.map(4, 3), t -> t.feed(0), t -> t.read(), t -> t.see(30, 0), t -> t.see(-1, 0), t -> t.event(2, 0),
            t -> t.event(-1, 0), t -> t.book(0, 1, 40), t -> t.book(-1, 0, 0), t -> t.image(), t -> t.undo(),
            t -> t.tape(5, 0, 1), t -> t.tape(0, 1, 3), t -> t.tape(0, -1, 0), t -> t.item(3, 2, 8), t -> t.shift(3, 0, 3, 1, 1)};
        for (int i = 0; i < changes.length; i++) {
            TightHulls t = made(PARTLY);
            changes[i].on(t);
            Edge.due(!plain.equals(look(t)), "a look tells change " + i);
        }
    }

    static void same(String call, String left, String right) {
        int at = 0;
        while (at < Math.min(left.length(), right.length()) && left.charAt(at) == right.charAt(at)) at++;
        int from = Math.max(0, at - 40);
        String told = left.equals(right) ? "" : ": " + left.substring(from, Math.min(left.length(), at + 20)) + " | "
            + right.substring(from, Math.min(right.length(), at + 20));
        Edge.due(left.equals(right), "changed by " + call + told);
    }

    // ---- what is asked

    /** Numbers of all sorts, alone, by twos, by threes: whatever is answered. */
    static void asked(int state) throws IllegalAccessException {
        int[] single = {MIN, -2, -1, 0, 1, 2, 3, 4, 5, 6, 7, 8, 9, 10, 11, 12, 13, 14, 16, 30, 32, MAX};
        int[] pairs = {-1, 0, 1, 2, 3, 4, 5, 8, MAX};
        int[] threes = {-1, 0, 1, 2, 4};
        String plain = look(made(state));
        for (String name : ASKED) {
            for (Method m : TightHulls.class.getMethods()) {
                if (!m.getName().equals(name)) continue;
                TightHulls t = made(state);
                int many = m.getParameterCount();
                int[] from = many < 2 ? single : many == 2 ? pairs : threes;
                int all = (int) Math.pow(from.length, many);
                for (int code = 0; code < all; code++) ask(t, m, from, code);
                same(name + " in state " + state, look(t), plain);
            }
        }
    }

    static void ask(TightHulls t, Method m, int[] from, int code) throws IllegalAccessException {
        Object[] told = new Object[m.getParameterCount()];
        int rest = code;
        for (int i = 0; i < told.length; i++) {
            told[i] = from[rest % from.length];
            rest /= from.length;
        }
        try {
            m.invoke(t, told);
        } catch (InvocationTargetException e) {
            Edge.due(false, m.getName() + " throws " + e.getCause());
        }
    }

    // ---- what is refused

    static void refused(int state, long want, String call, Call on) {
        TightHulls t = made(state);
        Edge.due(on.on(t), want);
        same(call + " in state " + state, look(t), look(made(state)));
    }

    static void refusedDistances(int s) {
        refused(s, BAD, "points(2)", t -> t.points(2));
        refused(s, BAD, "points(6)", t -> t.points(6));
        refused(s, NONE, "set(0, 0, 1)", t -> t.set(0, 0, 1));
        refused(s, NONE, "set(0, 5, 1)", t -> t.set(0, 5, 1));
        refused(s, NONE, "set(-1, 0, 1)", t -> t.set(-1, 0, 1));
        refused(s, BAD, "set(0, 1, -1)", t -> t.set(0, 1, -1));
        refused(s, BAD, "set(0, 1, 41)", t -> t.set(0, 1, 41));
        refused(s, NONE, "function(5, 1)", t -> t.function(5, 1));
        refused(s, NONE, "function(-1, 1)", t -> t.function(-1, 1));
        refused(s, BAD, "function(0, -1)", t -> t.function(0, -1));
        refused(s, BAD, "function(0, 161)", t -> t.function(0, 161));
        refused(s, NONE, "least(2, 0)", t -> t.least(2, 0));
        refused(s, NONE, "least(-1, 0)", t -> t.least(-1, 0));
        refused(s, s == NO_TABLE ? STATE : NONE, "least(1, -1)", t -> t.least(1, -1));
        refused(s, s == NO_TABLE ? STATE : NONE, "least(1, 37)", t -> t.least(1, 37));
        refused(s, NONE, "map(5, 0)", t -> t.map(5, 0));
        refused(s, NONE, "map(0, 5)", t -> t.map(0, 5));
        refused(s, NONE, "map(-1, 0)", t -> t.map(-1, 0));
        refused(s, NONE, "map(0, -1)", t -> t.map(0, -1));
        refused(s, BAD, "feed(-1)", t -> t.feed(-1));
        refused(s, BAD, "feed(128)", t -> t.feed(128));
        if (s == NEW || s == WHOLE) refused(s, STATE, "undo()", t -> t.undo());
        if (s == NO_TABLE) refused(s, STATE, "least(1, 0)", t -> t.least(1, 0));
    }

    static void refusedRows(int s) {
        refused(s, NONE, "see(0, 1)", t -> t.see(0, 1));
        refused(s, NONE, "see(1, 1)", t -> t.see(1, 1));
        refused(s, NONE, "see(-2, 1)", t -> t.see(-2, 1));
        refused(s, NONE, "see(32, 1)", t -> t.see(32, 1));
        refused(s, BAD, "see(2, -1)", t -> t.see(2, -1));
        refused(s, BAD, "see(2, 100)", t -> t.see(2, 100));
        refused(s, NONE, "event(3, 0)", t -> t.event(3, 0));
        refused(s, NONE, "event(-2, 0)", t -> t.event(-2, 0));
        refused(s, NONE, "event(0, 5)", t -> t.event(0, 5));
        refused(s, NONE, "event(0, -1)", t -> t.event(0, -1));
        refused(s, BAD, "event(1, -1)", t -> t.event(1, -1));
        refused(s, BAD, "event(1, 10)", t -> t.event(1, 10));
        refused(s, BAD, "event(2, 1)", t -> t.event(2, 1));
        refused(s, BAD, "event(2, -1)", t -> t.event(2, -1));
        refused(s, NONE, "book(0, 0, 1)", t -> t.book(0, 0, 1));
        refused(s, NONE, "book(0, 5, 1)", t -> t.book(0, 5, 1));
        refused(s, NONE, "book(-2, 0, 1)", t -> t.book(-2, 0, 1));
        refused(s, NONE, "book(0, -1, 1)", t -> t.book(0, -1, 1));
        refused(s, BAD, "book(0, 1, -1)", t -> t.book(0, 1, -1));
        refused(s, BAD, "book(0, 1, 41)", t -> t.book(0, 1, 41));
    }

    static void refusedTapes(int s) {
        for (int k = 0; k <= 5; k++) {
            int tape = k;
            refused(s, BAD, "tape(" + k + ", 5, 1)", t -> t.tape(tape, 5, 1));
            refused(s, BAD, "tape(" + k + ", -2, 1)", t -> t.tape(tape, -2, 1));
            refused(s, BAD, "tape(" + k + ", 0, 61)", t -> t.tape(tape, 0, 61));
            refused(s, SIZE, "tape(" + k + ", 0, -1)", t -> t.tape(tape, 0, -1));
            boolean nothing = s == NEW || k == 5;
            refused(s, nothing ? NOTHING : PLACE, "item(" + k + ", -1, 1)", t -> t.item(tape, -1, 1));
            refused(s, nothing ? NOTHING : PLACE, "item(" + k + ", 12, 1)", t -> t.item(tape, 12, 1));
            refused(s, nothing ? NOTHING : PLACE, "shift(" + k + ") onto itself", t -> t.shift(tape, 0, tape, 1, 12));
            refused(s, nothing ? NOTHING : PLACE, "shift(" + k + ") of -1", t -> t.shift(tape, 0, tape, 1, -1));
            refused(s, nothing ? NOTHING : PLACE, "shift(" + k + ") from -1", t -> t.shift(tape, -1, tape, 0, 2));
            refused(s, nothing ? NOTHING : PLACE, "shift(" + k + ") to -1", t -> t.shift(tape, 0, tape, -1, 2));
            refused(s, nothing || k == 4 ? NOTHING : CAST, "shift(" + k + ") onto the next", t -> t.shift(tape, 0, (tape + 1) % 6, 1, 2));
        }
        refused(s, NONE, "tape(6, 0, 1)", t -> t.tape(6, 0, 1));
        refused(s, NONE, "tape(-1, -1, 1)", t -> t.tape(-1, -1, 1));
        refused(s, NONE, "item(6, 0, 1)", t -> t.item(6, 0, 1));
        refused(s, NONE, "item(-1, 0, 1)", t -> t.item(-1, 0, 1));
        refused(s, NONE, "shift(6, 0, 0, 0, 1)", t -> t.shift(6, 0, 0, 0, 1));
        refused(s, NONE, "shift(0, 0, -1, 0, 1)", t -> t.shift(0, 0, -1, 0, 1));
    }

    static void refusedFull() {
        refused(WHOLE, FULL, "feed('h')", t -> t.feed('h'));
        refused(WHOLE, FULL, "see(2, 1)", t -> t.see(2, 1));
        refused(WHOLE, FULL, "event(0, 0)", t -> t.event(0, 0));
        refused(WHOLE, FULL, "event(1, 0)", t -> t.event(1, 0));
        refused(WHOLE, FULL, "event(2, 0)", t -> t.event(2, 0));
        refused(WHOLE, FULL, "book(0, 1, 1)", t -> t.book(0, 1, 1));
    }

    // ---- what changes one thing alone

    /** By a FAULT THE TEXT is empty, and so it is if nothing of it is done: all else is as it was. */
    static void faults(int state) {
        String[] texts = {"", "n5;d0107;x", "m0;h;", "h;h;h;h;h;h;h;h;h;h;h;h;m0", "n2;n6;d0141;d0001;d991;s9 1", "m1", "s0 0"};
        int[] answers = {-10, -19, -15, -33, 0, 1, 1};
        for (int i = 0; i < texts.length; i++) {
            TightHulls t = made(state);
            t.read();
            Edge.due(Edge.read(t, texts[i]), answers[i]);
            TightHulls other = made(state);
            other.read();
            same("the text " + texts[i] + " in state " + state, look(t), look(other));
        }
    }

    /** By image() nothing is otherwise but what undo() brings back. */
    static void imageTaken(int state) {
        TightHulls t = made(state);
        t.image();
        same("image() in state " + state, lookNow(t), lookNow(made(state)));
        TightHulls back = made(state);
        back.image();
        back.undo();
        same("undo() right behind image() in state " + state, lookNow(back), lookNow(made(state)));
    }
}
