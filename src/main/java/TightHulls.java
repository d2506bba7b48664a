/**
 * Tight hulls of distance tables: what the promises of DOC.md say.
 * A call makes no object: all rows are made with the object and used again.
 */
public final class TightHulls {
    public static final int NONE = -1, BAD = -2, STATE = -3, FULL = -4;
    public static final long NO = Long.MIN_VALUE;

    private static final int NOTHING = -11, CAST = -12, PLACE = -13, SIZE = -14;
    private static final int NOT_ANY = -5;
    private static final int FEWEST_POINTS = 3, MOST_POINTS = 5, FIRST_POINTS = 4;
    private static final int FIRST_DISTANCE = 2, MOST_DISTANCE = 40;
    private static final int MOST_NUMBER = 160;
    private static final int MOST_SEEN = 4, MOST_SEEN_WEIGHT = 99, MOST_EVENTS = 8, MOST_BOOK = 8;
    private static final int MOST_LESS = 9;
    private static final int NUMBER_ASKED_KEEPS = 10, NUMBER_ASKED_LEAST = 11, NUMBER_ASKED_DEPTH = 12;
    private static final int MAP_ASKED_KEEPS = 10, MAP_ASKED_SHRINKS = 11;
    private static final int ROW_ENDS = 100;

    private final Setup now;
    private final Setup taken;
    private boolean isTaken;
    private final Table trial;
    private final Splits splits;
    private final Hull hull;
    private final Text text;
    private final Tapes tapes;

    public TightHulls() {
        now = new Setup();
        taken = new Setup();
        isTaken = false;
        trial = new Table();
        splits = new Splits();
        hull = new Hull();
        text = new Text();
        tapes = new Tapes();
    }

    // ---- distances

    public int points(int n) {
        int before = now.table.size;
        return now.begin(n) ? before : BAD;
    }

    public int set(int x, int y, int v) {
        if (!now.table.areTwo(x, y)) {
            return NONE;
        }
        int before = now.table.gap(x, y);
        return now.place(x, y, v) ? before : BAD;
    }

    public int shorten() {
        trial.become(now.table);
        now.table.takeShortWays();
        return now.table.otherwiseThan(trial);
    }

    public int function(int point, int v) {
        if (!now.table.has(point)) {
            return NONE;
        }
        if (v < 0 || v > MOST_NUMBER) {
            return BAD;
        }
        int before = now.numbers[point];
        now.numbers[point] = v;
        return before;
    }

    public int least(int what, int which) {
        if (what == 0) {
            return now.makeLeast();
        }
        if (what != 1) {
            return NONE;
        }
        int refusal = cornerRefusal(which);
        return refusal != 0 ? refusal : now.takeCorner(hull, which);
    }

    public int map(int point, int to) {
        if (!now.table.has(point) || !now.table.has(to)) {
            return NONE;
        }
        int before = now.images[point];
        now.images[point] = to;
        return before;
    }

    public int feed(int sign) {
        if (sign < 0 || sign > 127) {
            return BAD;
        }
        return text.add(sign) ? text.held : FULL;
    }

    public int read() {
        int fault = text.firstFault();
        int answer = fault >= 0 ? -10 - fault : text.carryOut(now);
        text.empty();
        return answer;
    }

    // ---- what is told

    public int of(int x, int y, int what) {
        if (!now.table.has(x) || !now.table.has(y)) {
            return NONE;
        }
        switch (what) {
            case 0:
                return now.table.gap(x, y);
            case 1:
                trial.become(now.table);
                trial.takeShortWays();
                return trial.gap(x, y);
            case 2:
                splits.follow(now.table);
                return 2 * now.table.gap(x, y) - splits.weightBetween(x, y);
            default:
                return NONE;
        }
    }

    public int told(int what) {
        switch (what) {
            case 0:
                return now.table.size;
            case 1:
                return oneIf(now.table.isTable());
            case 2:
                return now.table.firstBarred();
            case 3:
                splits.follow(now.table);
                return splits.held;
            case 4:
                return oneIf(now.table.isTree());
            case 5:
                return now.table.span();
            case 6:
                return now.table.girth();
            case 7:
                return now.table.usual();
            case 8:
                return now.table.leastRound();
            case 9:
                return now.table.keepers();
            default:
                return NONE;
        }
    }

    public int functionOf(int what) {
        if (now.table.has(what)) {
            return now.numbers[what];
        }
        switch (what) {
            case NUMBER_ASKED_KEEPS:
                return oneIf(Ties.keepApart(now.table, now.numbers));
            case NUMBER_ASKED_LEAST:
                return oneIf(Ties.areLeast(now.table, now.numbers));
            case NUMBER_ASKED_DEPTH:
                if (!Ties.areLeast(now.table, now.numbers)) {
                    return NOT_ANY;
                }
                return Ties.depth(now.table.size, Ties.tightTwos(now.table, now.numbers));
            default:
                return NONE;
        }
    }

    public int mapOf(int what) {
        if (now.table.has(what)) {
            return now.images[what];
        }
        switch (what) {
            case MAP_ASKED_KEEPS:
                return oneIf(now.mapHolds(false));
            case MAP_ASKED_SHRINKS:
                return oneIf(now.mapHolds(true));
            default:
                return NONE;
        }
    }

    public int middle(int x, int y, int z) {
        if (!now.table.has(x) || !now.table.has(y) || !now.table.has(z)) {
            return NONE;
        }
        return now.table.gap(x, y) + now.table.gap(x, z) - now.table.gap(y, z);
    }

    // ---- the hull

    public int corners() {
        hull.follow(now.table);
        return hull.there ? hull.held : STATE;
    }

    public int at(int corner, int point) {
        int refusal = cornerRefusal(corner);
        if (refusal != 0) {
            return refusal;
        }
        return now.table.has(point) ? hull.number(corner, point) : NONE;
    }

    public int corner(int corner, int what) {
        int refusal = cornerRefusal(corner);
        if (refusal != 0) {
            return refusal;
        }
        switch (what) {
            case 0:
                return Ties.manyTwos(hull.twosAt(corner));
            case 1:
                return hull.neighbours(corner);
            case 2:
                return hull.ownerOf(corner);
            default:
                return NONE;
        }
    }

    public int tight(int corner, int x, int y) {
        int refusal = cornerRefusal(corner);
        if (refusal != 0) {
            return refusal;
        }
        if (!now.table.has(x) || !now.table.has(y)) {
            return NONE;
        }
        return oneIf(Ties.joins(hull.twosAt(corner), x, y));
    }

    public int two(int one, int other, int what) {
        int refusal = cornerRefusal(one);
        if (refusal == 0) {
            refusal = cornerRefusal(other);
        }
        if (refusal != 0) {
            return refusal;
        }
        switch (what) {
            case 0:
                return hull.apart(one, other);
            case 1:
                return oneIf(hull.areBeside(one, other));
            case 2:
                return Ties.manyTwos(hull.twosAt(one) & hull.twosAt(other));
            default:
                return NONE;
        }
    }

    public int eye(int point) {
        hull.follow(now.table);
        if (!hull.there) {
            return STATE;
        }
        return now.table.has(point) ? hull.eyeOf(point) : NONE;
    }

    // ---- splits

    public int weight(int split) {
        return now.table.isSplit(split) ? now.table.weightOf(split) : NONE;
    }

    public int split(int i, int what) {
        if (i < 0 || what < 0 || what > 1) {
            return NONE;
        }
        splits.follow(now.table);
        if (i >= splits.held) {
            return NOT_ANY;
        }
        return what == 0 ? splits.bits[i] : splits.weights[i];
    }

    // ---- seen, odds

    public int see(int split, int v) {
        if (split == -1) {
            now.seen.empty();
            return 0;
        }
        if (!now.table.isSplit(split)) {
            return NONE;
        }
        if (v < 0 || v > MOST_SEEN_WEIGHT) {
            return BAD;
        }
        return now.seen.add(split, v, 0) ? now.seen.held : FULL;
    }

    public int fits(int x, int y, int what) {
        if (!now.table.areTwo(x, y) || what < 0 || what > 1) {
            return NONE;
        }
        trial.become(now.table);
        int many = 0;
        int first = NOT_ANY;
        for (int v = 0; v <= MOST_DISTANCE; v++) {
            trial.put(x, y, v);
            if (trial.isTable() && now.isAsSeen(trial)) {
                many++;
                first = first == NOT_ANY ? v : first;
            }
        }
        return what == 0 ? many : first;
    }

    public long odds(int x, int y, int part) {
        if (!now.table.areTwo(x, y)) {
            return NO;
        }
        splits.follow(now.table);
        return lowestTerms(splits.manyBetween(x, y), splits.held, part);
    }

    public long mean(int part) {
        return lowestTerms(now.table.girth(), now.table.manyTwos(), part);
    }

    // ---- events, books

    public int event(int what, int n) {
        if (what == -1) {
            now.events.empty();
            return 0;
        }
        if (what < 0 || what > 2 || (what == 0 && !now.table.has(n))) {
            return NONE;
        }
        if ((what == 1 && (n < 0 || n > MOST_LESS)) || (what == 2 && n != 0)) {
            return BAD;
        }
        return now.events.add(what, n, 0) ? now.events.held : FULL;
    }

    public int after(int what) {
        if (what < 0 || what > 2) {
            return NONE;
        }
        trial.become(now.table);
        now.happenTo(trial);
        if (what == 0) {
            return oneIf(trial.isTable());
        }
        if (what == 2) {
            return oneIf(trial.isTree());
        }
        splits.follow(trial);
        return splits.held;
    }

    public int book(int x, int y, int v) {
        if (x == -1) {
            now.book.empty();
            return 0;
        }
        if (!now.table.areTwo(x, y)) {
            return NONE;
        }
        if (v < 0 || v > MOST_DISTANCE) {
            return BAD;
        }
        return now.book.add(x, y, v) ? now.book.held : FULL;
    }

    public int looked() {
        return now.firstWrongInBook();
    }

    // ---- judging, the image, tapes

    public int judge(int tape, int i) {
        if (!tapes.has(tape)) {
            return NONE;
        }
        if (tapes.holdsNothing(tape)) {
            return ROW_ENDS;
        }
        if (tapes.sorts[tape] != Tapes.INTS) {
            return CAST;
        }
        return i < 0 ? ROW_ENDS : judgeRow(tape, i);
    }

    public int image() {
        taken.become(now);
        isTaken = true;
        return now.table.girth();
    }

    public int undo() {
        if (!isTaken) {
            return STATE;
        }
        now.become(taken);
        return now.table.girth();
    }

    public int count(int what) {
        switch (what) {
            case 0:
                return now.seen.held;
            case 1:
                return now.events.held;
            case 2:
                return now.book.held;
            case 3:
                return text.held;
            default:
                return BAD;
        }
    }

    public int tape(int tape, int sort, int n) {
        if (!tapes.has(tape)) {
            return NONE;
        }
        if (sort == Tapes.NO_ROW) {
            return tapes.lay(tape, sort, 0);
        }
        if (sort < 0 || sort > Tapes.BOOLEANS || n > Tapes.LONGEST) {
            return BAD;
        }
        return n < 0 ? SIZE : tapes.lay(tape, sort, n);
    }

    public int item(int tape, int i, long v) {
        if (!tapes.has(tape)) {
            return NONE;
        }
        if (tapes.holdsNothing(tape)) {
            return NOTHING;
        }
        return tapes.change(tape, i, v) ? 1 : PLACE;
    }

    public long peek(int tape, int i) {
        return tapes.hasItem(tape, i) ? tapes.items[tape][i] : NO;
    }

    public int shift(int tape, int i, int other, int j, int n) {
        if (!tapes.has(tape) || !tapes.has(other)) {
            return NONE;
        }
        if (tapes.holdsNothing(tape) || tapes.holdsNothing(other)) {
            return NOTHING;
        }
        if (tapes.sorts[tape] != tapes.sorts[other]) {
            return CAST;
        }
        if (!tapes.hasRun(tape, i, n) || !tapes.hasRun(other, j, n)) {
            return PLACE;
        }
        System.arraycopy(tapes.items[tape], i, tapes.items[other], j, n);
        return n;
    }

    // ---- what several calls need

    private static int oneIf(boolean so) {
        return so ? 1 : 0;
    }

    /** STATE or NONE if there is no such CORNER, else 0; the hull is up to date then. */
    private int cornerRefusal(int corner) {
        hull.follow(now.table);
        if (!hull.there) {
            return STATE;
        }
        return hull.has(corner) ? 0 : NONE;
    }

    private int judgeRow(int tape, int from) {
        int place = from;
        int looked = 0;
        for (int x = 0; x < now.table.size; x++) {
            for (int y = x + 1; y < now.table.size; y++) {
                if (!tapes.hasItem(tape, place)) {
                    return ROW_ENDS + looked;
                }
                if (tapes.items[tape][place] != now.table.gap(x, y)) {
                    return 10 * x + y;
                }
                looked++;
                place++;
            }
        }
        return NOT_ANY;
    }

    private static long lowestTerms(int above, int below, int part) {
        if (below <= 0 || part < 0 || part > 1) {
            return NO;
        }
        int common = commonDivisor(above, below);
        if (common <= 0) {
            return NO;
        }
        return part == 0 ? above / common : below / common;
    }

    private static int commonDivisor(int above, int below) {
        int one = above;
        int other = below;
        for (int step = 0; step < 100 && other > 0; step++) {
            int left = one % other;
            one = other;
            other = left;
        }
        return one;
    }

    /** How far the POINTS are from one another. */
    private static final class Table {
        /** More than any way or sum of four DISTANCES comes to. */
        private static final int BEYOND = 1000;

        int size;
        private final int[] gaps;

        Table() {
            gaps = new int[MOST_POINTS * MOST_POINTS];
            spread(FIRST_POINTS);
        }

        void spread(int n) {
            size = Math.max(FEWEST_POINTS, Math.min(n, MOST_POINTS));
            for (int x = 0; x < size; x++) {
                for (int y = x + 1; y < size; y++) {
                    put(x, y, FIRST_DISTANCE);
                }
            }
        }

        void become(Table other) {
            size = other.size;
            System.arraycopy(other.gaps, 0, gaps, 0, gaps.length);
        }

        boolean has(int x) {
            return x >= 0 && x < size;
        }

        boolean areTwo(int x, int y) {
            return x >= 0 && x < size && y >= 0 && y < size && x != y;
        }

        int gap(int x, int y) {
            boolean areThere = x >= 0 && x < size && y >= 0 && y < size;
            return areThere ? gaps[MOST_POINTS * x + y] : 0;
        }

        void put(int x, int y, int v) {
            if (areTwo(x, y)) {
                gaps[MOST_POINTS * x + y] = v;
                gaps[MOST_POINTS * y + x] = v;
            }
        }

        int manyTwos() {
            return size * (size - 1) / 2;
        }

        int otherwiseThan(Table other) {
            int many = 0;
            for (int x = 0; x < size; x++) {
                for (int y = x + 1; y < size; y++) {
                    many += gap(x, y) != other.gap(x, y) ? 1 : 0;
                }
            }
            return many;
        }

        boolean isLike(Table other) {
            return size == other.size && otherwiseThan(other) == 0;
        }

        /** Three are barred both ways about, so the first of them has x below z. */
        int firstBarred() {
            for (int x = 0; x < size; x++) {
                for (int y = 0; y < size; y++) {
                    for (int z = x + 1; z < size; z++) {
                        if (gap(x, z) > gap(x, y) + gap(y, z)) {
                            return 100 * x + 10 * y + z;
                        }
                    }
                }
            }
            return NOT_ANY;
        }

        boolean isTable() {
            return firstBarred() == NOT_ANY;
        }

        void takeShortWays() {
            for (int via = 0; via < size; via++) {
                for (int x = 0; x < size; x++) {
                    for (int y = x + 1; y < size; y++) {
                        put(x, y, Math.min(gap(x, y), gap(x, via) + gap(via, y)));
                    }
                }
            }
        }

        int span() {
            int most = 0;
            for (int x = 0; x < size; x++) {
                for (int y = x + 1; y < size; y++) {
                    most = Math.max(most, gap(x, y));
                }
            }
            return most;
        }

        int girth() {
            int sum = 0;
            for (int x = 0; x < size; x++) {
                for (int y = x + 1; y < size; y++) {
                    sum += gap(x, y);
                }
            }
            return sum;
        }

        int usual() {
            int best = 0;
            int most = 0;
            for (int v = 0; v <= MOST_DISTANCE; v++) {
                int many = manyOf(v);
                if (many > most) {
                    most = many;
                    best = v;
                }
            }
            return best;
        }

        private int manyOf(int v) {
            int many = 0;
            for (int x = 0; x < size; x++) {
                for (int y = x + 1; y < size; y++) {
                    many += gap(x, y) == v ? 1 : 0;
                }
            }
            return many;
        }

        int leastRound() {
            return wayHome(this, 0, 1, size - 1);
        }

        /** The least way from a POINT through all (so many) that were not passed yet, and back to POINT 0. */
        private static int wayHome(Table t, int from, int passed, int left) {
            if (left <= 0) {
                return t.gap(from, 0);
            }
            int least = BEYOND;
            for (int next = 1; next < t.size; next++) {
                if ((passed & 1 << next) == 0) {
                    int way = t.gap(from, next) + wayHome(t, next, passed | 1 << next, left - 1);
                    least = Math.min(least, way);
                }
            }
            return least;
        }

        int keepers() {
            return keepersWith(this, 0, 0);
        }

        /** How many KEEPERS go on from POINTS 0 .. point - 1 being placed so (three bits for each). */
        private static int keepersWith(Table t, int point, int placed) {
            if (point >= t.size) {
                return 1;
            }
            int many = 0;
            for (int to = 0; to < t.size; to++) {
                if (mayGo(t, point, to, placed)) {
                    many += keepersWith(t, point + 1, placed | to << 3 * point);
                }
            }
            return many;
        }

        private static boolean mayGo(Table t, int point, int to, int placed) {
            for (int before = 0; before < point; before++) {
                int there = placed >> 3 * before & 7;
                if (there == to || t.gap(there, to) != t.gap(before, point)) {
                    return false;
                }
            }
            return true;
        }

        boolean isTree() {
            if (!isTable()) {
                return false;
            }
            for (int a = 0; a < size; a++) {
                for (int b = a + 1; b < size; b++) {
                    for (int c = b + 1; c < size; c++) {
                        if (!hangsWithAll(a, b, c)) {
                            return false;
                        }
                    }
                }
            }
            return true;
        }

        private boolean hangsWithAll(int a, int b, int c) {
            for (int d = c + 1; d < size; d++) {
                int one = gap(a, b) + gap(c, d);
                int two = gap(a, c) + gap(b, d);
                int three = gap(a, d) + gap(b, c);
                boolean alike = one == two ? three <= one : Math.max(one, two) == three;
                if (!alike) {
                    return false;
                }
            }
            return true;
        }

        boolean isSplit(int bits) {
            return bits > 0 && (bits & 1) == 0 && bits < 1 << size;
        }

        int weightOf(int bits) {
            int least = BEYOND;
            for (int a = 0; a < size; a++) {
                for (int b = a; b < size; b++) {
                    if ((bits >> a & 1) == 1 && (bits >> b & 1) == 1) {
                        least = Math.min(least, weightBy(bits, a, b));
                    }
                }
            }
            return least;
        }

        /** The least that two POINTS of the one lot come to with any two of the other one. */
        private int weightBy(int bits, int a, int b) {
            int least = BEYOND;
            for (int c = 0; c < size; c++) {
                for (int d = c; d < size; d++) {
                    if ((bits >> c & 1) == 0 && (bits >> d & 1) == 0) {
                        int within = gap(a, b) + gap(c, d);
                        int across = Math.max(gap(a, c) + gap(b, d), gap(a, d) + gap(b, c));
                        least = Math.min(least, Math.max(within, across) - within);
                    }
                }
            }
            return least;
        }
    }

    /** The SPLITS that COUNT, in their order. */
    private static final class Splits {
        private static final int MOST = 15;

        private final Table basis;
        private boolean followed;
        final int[] bits;
        final int[] weights;
        int held;

        Splits() {
            basis = new Table();
            followed = false;
            bits = new int[MOST];
            weights = new int[MOST];
            held = 0;
        }

        void follow(Table t) {
            if (followed && basis.isLike(t)) {
                return;
            }
            basis.become(t);
            followed = true;
            held = 0;
            for (int lot = 2; lot < 1 << basis.size; lot += 2) {
                int weight = basis.weightOf(lot);
                if (weight > 0) {
                    insert(lot, weight);
                }
            }
        }

        /** Lots come with their bits growing, so one of like weight goes behind. */
        private void insert(int lot, int weight) {
            if (held >= MOST) {
                return;
            }
            int place = held;
            for (; place > 0 && weights[place - 1] < weight; place--) {
                bits[place] = bits[place - 1];
                weights[place] = weights[place - 1];
            }
            bits[place] = lot;
            weights[place] = weight;
            held++;
        }

        private boolean parts(int i, int x, int y) {
            return (bits[i] >> x & 1) != (bits[i] >> y & 1);
        }

        int manyBetween(int x, int y) {
            int many = 0;
            for (int i = 0; i < held; i++) {
                many += parts(i, x, y) ? 1 : 0;
            }
            return many;
        }

        int weightBetween(int x, int y) {
            int sum = 0;
            for (int i = 0; i < held; i++) {
                sum += parts(i, x, y) ? weights[i] : 0;
            }
            return sum;
        }
    }

    /** What is asked of FUNCTIONS. TIGHT twos are told as bits: of x and y bit 5 x + y and bit 5 y + x. */
    private static final class Ties {
        private static final int ALL_POINTS = 0b11111;
        /** Of each two the one bit by which it is counted: that with x no more than y. */
        private static final int COUNTED = 0b10000_11000_11100_11110_11111;

        private Ties() {
        }

        /** The POINTS (as bits) that make TIGHT twos with this one. */
        static int partners(int twos, int x) {
            return twos >> MOST_POINTS * x & ALL_POINTS;
        }

        static boolean joins(int twos, int x, int y) {
            return (partners(twos, x) >> y & 1) == 1;
        }

        static int manyTwos(int twos) {
            return Integer.bitCount(twos & COUNTED);
        }

        static boolean coverAll(int size, int twos) {
            for (int x = 0; x < size; x++) {
                if (partners(twos, x) == 0) {
                    return false;
                }
            }
            return true;
        }

        static boolean keepApart(Table t, int[] numbers) {
            for (int x = 0; x < t.size; x++) {
                for (int y = x + 1; y < t.size; y++) {
                    if (numbers[x] + numbers[y] < 2 * t.gap(x, y)) {
                        return false;
                    }
                }
            }
            return true;
        }

        static int tightTwos(Table t, int[] numbers) {
            int twos = 0;
            for (int x = 0; x < t.size; x++) {
                for (int y = 0; y < t.size; y++) {
                    if (numbers[x] + numbers[y] == 2 * t.gap(x, y)) {
                        twos |= 1 << MOST_POINTS * x + y;
                    }
                }
            }
            return twos;
        }

        static boolean areLeast(Table t, int[] numbers) {
            return keepApart(t, numbers) && coverAll(t.size, tightTwos(t, numbers));
        }

        static int depth(int size, int twos) {
            int evenLots = 0;
            for (int x = 0; x < size; x++) {
                int walks = walksFrom(size, twos, x);
                int lot = (walks | walks >> MOST_POINTS) & ALL_POINTS;
                boolean leastOfLot = (lot & (1 << x) - 1) == 0;
                boolean oddRound = (walks >> MOST_POINTS + x & 1) == 1;
                evenLots += leastOfLot && !oddRound ? 1 : 0;
            }
            return evenLots;
        }

        /** Where walks along TIGHT twos end: bits 0 .. 4 those of an even number of steps, 5 .. 9 of an odd one. */
        private static int walksFrom(int size, int twos, int start) {
            int walks = 1 << start;
            for (int round = 0; round < 2 * MOST_POINTS; round++) {
                for (int x = 0; x < size; x++) {
                    int next = partners(twos, x);
                    if ((walks >> x & 1) == 1) {
                        walks |= next << MOST_POINTS;
                    }
                    if ((walks >> MOST_POINTS + x & 1) == 1) {
                        walks |= next;
                    }
                }
            }
            return walks;
        }

        /** The least number for a POINT that keeps it apart from these others, as their numbers are. */
        static int needed(Table t, int[] numbers, int x, int others) {
            int most = 0;
            for (int y = 0; y < t.size; y++) {
                if (y != x && (others >> y & 1) == 1) {
                    most = Math.max(most, 2 * t.gap(x, y) - numbers[y]);
                }
            }
            return most;
        }
    }

    /**
     * The CORNERS. A lot with an odd round has a number 0 or three POINTS or more, and of five POINTS at most
     * there is one such lot: so a CORNER is an EYE, or all hangs on a round of three or of five.
     */
    private static final class Hull {
        /** 5 EYES, 2 for each of 10 rounds of three, 12 rounds of five. */
        private static final int MOST = 37;
        /** A number at a CORNER is 80 at most. */
        private static final int NUMBER_BITS = 7;

        private final Table basis;
        private boolean followed;
        private final int[] numbers;
        /** The numbers of a CORNER as one, so that their order is the order of these. */
        private final long[] keys;
        private final int[] twos;
        boolean there;
        int held;

        Hull() {
            basis = new Table();
            followed = false;
            numbers = new int[MOST_POINTS];
            keys = new long[MOST];
            twos = new int[MOST];
            there = false;
            held = 0;
        }

        void follow(Table t) {
            if (followed && basis.isLike(t)) {
                return;
            }
            basis.become(t);
            followed = true;
            held = 0;
            there = basis.isTable();
            if (there) {
                addEyes();
                addRoundsOfThree();
                addRoundsOfFive();
                noteTwos();
            }
        }

        boolean has(int corner) {
            return corner >= 0 && corner < held;
        }

        private void addEyes() {
            for (int x = 0; x < basis.size; x++) {
                lookFrom(x);
                add();
            }
        }

        private void lookFrom(int x) {
            for (int y = 0; y < basis.size; y++) {
                numbers[y] = 2 * basis.gap(x, y);
            }
        }

        private void addRoundsOfThree() {
            for (int x = 0; x < basis.size; x++) {
                for (int y = x + 1; y < basis.size; y++) {
                    for (int z = y + 1; z < basis.size; z++) {
                        addRoundOfThree(x, y, z);
                    }
                }
            }
        }

        /**
         * Two POINTS are left at most: taken upwards and downwards they are taken in each order, each as near
         * as those before it let it. So these numbers KEEP, and what hangs together has the round.
         */
        private void addRoundOfThree(int x, int y, int z) {
            int xy = basis.gap(x, y);
            int xz = basis.gap(x, z);
            int yz = basis.gap(y, z);
            numbers[x] = xy + xz - yz;
            numbers[y] = xy + yz - xz;
            numbers[z] = xz + yz - xy;
            for (int turn = 0; turn < 2; turn++) {
                int placed = 1 << x | 1 << y | 1 << z;
                for (int i = 0; i < basis.size; i++) {
                    int point = turn == 0 ? i : basis.size - 1 - i;
                    if ((placed >> point & 1) == 0) {
                        numbers[point] = Ties.needed(basis, numbers, point, placed);
                        placed |= 1 << point;
                    }
                }
                add();
            }
        }

        private void addRoundsOfFive() {
            if (basis.size < 5) {
                return;
            }
            for (int a = 1; a < 5; a++) {
                for (int b = 1; b < 5; b++) {
                    for (int c = 1; c < 5; c++) {
                        int d = 10 - a - b - c;
                        // each round is met both ways, and is needed once
                        if (a != b && a != c && b != c && a < d) {
                            addRoundOfFive(a, b, c, d);
                        }
                    }
                }
            }
        }

        private void addRoundOfFive(int a, int b, int c, int d) {
            int from0 = basis.gap(0, a);
            int fromA = basis.gap(a, b);
            int fromB = basis.gap(b, c);
            int fromC = basis.gap(c, d);
            int fromD = basis.gap(d, 0);
            numbers[0] = from0 - fromA + fromB - fromC + fromD;
            numbers[a] = 2 * from0 - numbers[0];
            numbers[b] = 2 * fromA - numbers[a];
            numbers[c] = 2 * fromB - numbers[b];
            numbers[d] = 2 * fromC - numbers[c];
            if (areNumbers() && Ties.keepApart(basis, numbers)) {
                add();
            }
        }

        private boolean areNumbers() {
            for (int x = 0; x < basis.size; x++) {
                if (numbers[x] < 0 || numbers[x] > 2 * MOST_DISTANCE) {
                    return false;
                }
            }
            return true;
        }

        /** The numbers come as a CORNER, in order, if it is not there yet. */
        private void add() {
            long key = 0;
            for (int x = 0; x < MOST_POINTS; x++) {
                key = key << NUMBER_BITS | (x < basis.size ? numbers[x] : 0);
            }
            int place = 0;
            while (place < held && keys[place] < key) {
                place++;
            }
            if (held >= MOST || (place < held && keys[place] == key)) {
                return;
            }
            for (int i = held; i > place; i--) {
                keys[i] = keys[i - 1];
            }
            keys[place] = key;
            held++;
        }

        private void noteTwos() {
            for (int i = 0; i < held; i++) {
                for (int x = 0; x < basis.size; x++) {
                    numbers[x] = number(i, x);
                }
                twos[i] = Ties.tightTwos(basis, numbers);
            }
        }

        int number(int corner, int point) {
            if (!has(corner) || !basis.has(point)) {
                return 0;
            }
            long moved = keys[corner] >> NUMBER_BITS * (MOST_POINTS - 1 - point);
            return (int) (moved & (1 << NUMBER_BITS) - 1);
        }

        int twosAt(int corner) {
            return has(corner) ? twos[corner] : 0;
        }

        int apart(int one, int other) {
            int most = 0;
            for (int x = 0; x < basis.size; x++) {
                most = Math.max(most, Math.abs(number(one, x) - number(other, x)));
            }
            return most;
        }

        boolean areBeside(int one, int other) {
            int cell = twosAt(one) & twosAt(other);
            if (one == other || !Ties.coverAll(basis.size, cell)) {
                return false;
            }
            for (int third = 0; third < held; third++) {
                if (third != one && third != other && (twos[third] & cell) == cell) {
                    return false;
                }
            }
            return true;
        }

        int neighbours(int corner) {
            int many = 0;
            for (int other = 0; other < held; other++) {
                many += areBeside(corner, other) ? 1 : 0;
            }
            return many;
        }

        /** A number 0 is at EYES alone: LEAST leaves the others no choice then. */
        int ownerOf(int corner) {
            for (int x = 0; x < basis.size; x++) {
                if (number(corner, x) == 0) {
                    return x;
                }
            }
            return NOT_ANY;
        }

        int eyeOf(int point) {
            for (int i = 0; i < held; i++) {
                if (number(i, point) == 0) {
                    return i;
                }
            }
            return NONE;
        }
    }

    /** Rows of three numbers that come one behind the other, so many at most. */
    private static final class Rows {
        private static final int WIDTH = 3;

        private final int most;
        private final int[] cells;
        int held;

        Rows(int most) {
            this.most = Math.max(most, 0);
            cells = new int[WIDTH * this.most];
            held = 0;
        }

        void empty() {
            held = 0;
        }

        boolean add(int first, int second, int third) {
            if (held >= most) {
                return false;
            }
            cells[WIDTH * held] = first;
            cells[WIDTH * held + 1] = second;
            cells[WIDTH * held + 2] = third;
            held++;
            return true;
        }

        int cell(int row, int column) {
            boolean isThere = row >= 0 && row < held && column >= 0 && column < WIDTH;
            return isThere ? cells[WIDTH * row + column] : 0;
        }

        void become(Rows other) {
            held = 0;
            for (int i = 0; i < other.held; i++) {
                add(other.cell(i, 0), other.cell(i, 1), other.cell(i, 2));
            }
        }
    }

    /** All that THE IMAGE has. */
    private static final class Setup {
        final Table table;
        final int[] numbers;
        final int[] images;
        final Rows seen;
        final Rows events;
        final Rows book;

        Setup() {
            table = new Table();
            numbers = new int[MOST_POINTS];
            images = new int[MOST_POINTS];
            seen = new Rows(MOST_SEEN);
            events = new Rows(MOST_EVENTS);
            book = new Rows(MOST_BOOK);
            begin(FIRST_POINTS);
        }

        void become(Setup other) {
            table.become(other.table);
            System.arraycopy(other.numbers, 0, numbers, 0, MOST_POINTS);
            System.arraycopy(other.images, 0, images, 0, MOST_POINTS);
            seen.become(other.seen);
            events.become(other.events);
            book.become(other.book);
        }

        boolean begin(int n) {
            if (n < FEWEST_POINTS || n > MOST_POINTS) {
                return false;
            }
            table.spread(n);
            for (int x = 0; x < MOST_POINTS; x++) {
                numbers[x] = 0;
                images[x] = x;
            }
            return true;
        }

        boolean place(int x, int y, int v) {
            if (!table.areTwo(x, y) || v < 0 || v > MOST_DISTANCE) {
                return false;
            }
            table.put(x, y, v);
            return true;
        }

        /** Each DISTANCE of two of which just one is in the lot is so much more. */
        boolean setApart(int lot, int more) {
            if (lot >= 1 << table.size) {
                return false;
            }
            for (int x = 0; x < table.size; x++) {
                for (int y = x + 1; y < table.size; y++) {
                    if ((lot >> x & 1) != (lot >> y & 1)) {
                        table.put(x, y, Math.min(MOST_DISTANCE, table.gap(x, y) + more));
                    }
                }
            }
            return true;
        }

        void multiply(int by) {
            for (int x = 0; x < table.size; x++) {
                for (int y = x + 1; y < table.size; y++) {
                    table.put(x, y, Math.min(MOST_DISTANCE, table.gap(x, y) * by));
                }
            }
        }

        int makeLeast() {
            int changed = 0;
            int all = (1 << table.size) - 1;
            for (int x = 0; x < table.size; x++) {
                changed += becomes(x, Ties.needed(table, numbers, x, all));
            }
            return changed;
        }

        int takeCorner(Hull hull, int corner) {
            int changed = 0;
            for (int x = 0; x < table.size; x++) {
                changed += becomes(x, hull.number(corner, x));
            }
            return changed;
        }

        private int becomes(int x, int number) {
            int changed = numbers[x] != number ? 1 : 0;
            numbers[x] = number;
            return changed;
        }

        /** Whether the MAP leaves DISTANCES as they are, or SHRINKS them where it may. */
        boolean mapHolds(boolean mayShrink) {
            for (int x = 0; x < table.size; x++) {
                for (int y = x + 1; y < table.size; y++) {
                    int grown = table.gap(images[x], images[y]) - table.gap(x, y);
                    if (grown > 0 || (grown < 0 && !mayShrink)) {
                        return false;
                    }
                }
            }
            return true;
        }

        boolean isAsSeen(Table t) {
            for (int i = 0; i < seen.held; i++) {
                int split = seen.cell(i, 0);
                if (!t.isSplit(split) || t.weightOf(split) != seen.cell(i, 1)) {
                    return false;
                }
            }
            return true;
        }

        void happenTo(Table t) {
            for (int i = 0; i < events.held; i++) {
                int number = events.cell(i, 1);
                switch (events.cell(i, 0)) {
                    case 0:
                        moveAway(t, number);
                        break;
                    case 1:
                        drawTogether(t, number);
                        break;
                    default:
                        t.takeShortWays();
                        break;
                }
            }
        }

        private static void moveAway(Table t, int point) {
            for (int y = 0; y < t.size; y++) {
                t.put(point, y, Math.min(MOST_DISTANCE, t.gap(point, y) + 1));
            }
        }

        private static void drawTogether(Table t, int less) {
            for (int x = 0; x < t.size; x++) {
                for (int y = x + 1; y < t.size; y++) {
                    t.put(x, y, Math.max(0, t.gap(x, y) - less));
                }
            }
        }

        int firstWrongInBook() {
            for (int i = 0; i < book.held; i++) {
                int x = book.cell(i, 0);
                int y = book.cell(i, 1);
                if (!table.areTwo(x, y) || table.gap(x, y) != book.cell(i, 2)) {
                    return i;
                }
            }
            return NOT_ANY;
        }
    }

    /** THE TEXT, and the CLAUSES in it. */
    private static final class Text {
        private static final int MOST_BYTES = 100, MOST_CLAUSES = 12;
        private static final int NO_FAULT = -1, NO_SIGN = -1;

        private final byte[] signs;
        int held;
        private final int[] starts;
        private int clauses;

        Text() {
            signs = new byte[MOST_BYTES];
            held = 0;
            starts = new int[MOST_CLAUSES];
            clauses = 0;
        }

        boolean add(int sign) {
            if (held >= MOST_BYTES) {
                return false;
            }
            signs[held] = (byte) sign;
            held++;
            return true;
        }

        void empty() {
            held = 0;
            clauses = 0;
        }

        /** Where the FAULT is; notes where CLAUSES start. */
        int firstFault() {
            clauses = 0;
            int place = 0;
            for (int i = 0; i < MOST_CLAUSES; i++) {
                starts[i] = place;
                int end = pastClause(place);
                if (end < 0) {
                    return turned(end);
                }
                clauses = i + 1;
                if (end >= held) {
                    return NO_FAULT;
                }
                if (signAt(end) != ';') {
                    return end;
                }
                place = end + 1;
            }
            // one CLAUSE too many: the ; ahead of it is at fault
            return place - 1;
        }

        /** Each CLAUSE is done, or refused: how many were done. */
        int carryOut(Setup setup) {
            int done = 0;
            for (int i = 0; i < clauses; i++) {
                done += doClause(setup, starts[i]) ? 1 : 0;
            }
            return done;
        }

        private boolean doClause(Setup setup, int from) {
            int end = pastClause(from);
            switch (signAt(from)) {
                case 'n':
                    return setup.begin(digitAt(from + 1));
                case 'd':
                    return setup.place(digitAt(from + 1), digitAt(from + 2), numberAt(from + 3, end));
                case 's':
                    return doSetApart(setup, from + 1, end);
                case 'm':
                    setup.multiply(numberAt(from + 1, end));
                    return true;
                case 'h':
                    setup.table.takeShortWays();
                    return true;
                default:
                    return false;
            }
        }

        private boolean doSetApart(Setup setup, int from, int end) {
            int lot = 0;
            int place = from;
            for (; place < end && signAt(place) != ' '; place++) {
                lot |= 1 << digitAt(place);
            }
            return setup.setApart(lot, numberAt(place + 1, end));
        }

        /** Where the CLAUSE that starts here ends, or the place of its FAULT, turned. */
        private int pastClause(int from) {
            switch (signAt(from)) {
                case 'n':
                    return pastDigits(from + 1, 1, 1);
                case 'd':
                    return pastDigits(from + 1, 3, 4);
                case 's':
                    return pastSetApart(from + 1);
                case 'm':
                    return pastDigits(from + 1, 1, 2);
                case 'h':
                    return from + 1;
                default:
                    return turned(from);
            }
        }

        private int pastSetApart(int from) {
            int blank = pastDigits(from, 1, 4);
            if (blank < 0) {
                return blank;
            }
            return signAt(blank) == ' ' ? pastDigits(blank + 1, 1, 2) : turned(blank);
        }

        private int pastDigits(int from, int fewest, int most) {
            int many = 0;
            while (many < most && isDigit(signAt(from + many))) {
                many++;
            }
            return many < fewest ? turned(from + many) : from + many;
        }

        /** Places turned are below 0, so a FAULT is no end of a CLAUSE; turned again they are as before. */
        private static int turned(int place) {
            return -1 - place;
        }

        private int signAt(int place) {
            return place >= 0 && place < held ? signs[place] : NO_SIGN;
        }

        private static boolean isDigit(int sign) {
            return sign >= '0' && sign <= '9';
        }

        private int digitAt(int place) {
            int sign = signAt(place);
            return isDigit(sign) ? sign - '0' : 0;
        }

        private int numberAt(int from, int end) {
            int number = 0;
            for (int place = from; place < end; place++) {
                number = 10 * number + digitAt(place);
            }
            return number;
        }
    }

    /** TAPES 0 .. 5: items are held as longs, each as its sort has it. */
    private static final class Tapes {
        static final int NO_ROW = -1, BYTES = 0, SHORTS = 1, INTS = 2, LONGS = 3, BOOLEANS = 4;
        static final int LONGEST = 60;
        private static final int MOST = 6;

        final long[][] items;
        final int[] sorts;
        private final int[] lengths;

        Tapes() {
            items = new long[MOST][LONGEST];
            sorts = new int[MOST];
            lengths = new int[MOST];
            for (int tape = 0; tape < MOST; tape++) {
                sorts[tape] = NO_ROW;
            }
        }

        boolean has(int tape) {
            return tape >= 0 && tape < MOST;
        }

        boolean holdsNothing(int tape) {
            return !has(tape) || sorts[tape] == NO_ROW;
        }

        boolean hasItem(int tape, int i) {
            return !holdsNothing(tape) && i >= 0 && i < lengths[tape];
        }

        /** By taking away, not adding: a sum of two great numbers would come out below 0. */
        boolean hasRun(int tape, int from, int n) {
            if (holdsNothing(tape) || n < 0 || from < 0) {
                return false;
            }
            return n <= lengths[tape] && from <= lengths[tape] - n;
        }

        int lay(int tape, int sort, int n) {
            sorts[tape] = sort;
            lengths[tape] = n;
            for (int i = 0; i < LONGEST; i++) {
                items[tape][i] = 0;
            }
            return 1;
        }

        boolean change(int tape, int i, long v) {
            if (!hasItem(tape, i)) {
                return false;
            }
            items[tape][i] = lowestBits(sorts[tape], v);
            return true;
        }

        private static long lowestBits(int sort, long v) {
            switch (sort) {
                case BYTES:
                    return (byte) v;
                case SHORTS:
                    return (short) v;
                case INTS:
                    return (int) v;
                case BOOLEANS:
                    return v != 0 ? 1 : 0;
                default:
                    return v;
            }
        }
    }
}
