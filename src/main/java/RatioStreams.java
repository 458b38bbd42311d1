/** A bench for numbers that come part by part; ../shared/DOC.md tells what each call answers. */
public final class RatioStreams {
    public static final int NONE = -1;
    public static final long UNKNOWN = -2000000000000000001L, OUTSIDE = -2000000000000000002L, STATE = -2000000000000000003L, FULL = -2000000000000000004L, ISFAR = -2000000000000000005L, ISOPEN = -2000000000000000006L;

    private static final long GREATEST = 1000000000000000L;
    /** Stands for every number above GREATEST: what is worked out with it is FAR again. */
    private static final long FAR = 4000000000000000000L;
    private static final long SPAN_MOST = 10000000000000L;

    private static final int MOST_STREAMS = 40;
    private static final int MOST_PARTS = 60;
    private static final int MOST_ROWS = 8;
    private static final int MILLION = 1000000;
    /** All PARTS of both sides and their two OUTs, and all that can be GIVEN. */
    private static final int MOST_STEPS = 3 * MOST_PARTS + 2;
    private static final int STEP_WIDTH = 10;

    private static final int RATIO = 0, ROOT = 1, RULE = 2, MADE = 3;
    private static final int ADD = 0, TAKE_AWAY = 1, TIMES = 2, OVER = 3, TURN = 4;
    private static final int NEAREST = 0, NOT_BELOW = 2;
    private static final int TAKEN_STEP = 0, OUT_STEP = 2, GIVEN_STEP = 4;

    /** Eight numbers a .. h for each act, in the order of ADD .. TURN. */
    private static final int[] ACT_FACTORS = {
        0, 1, 1, 0, 0, 0, 0, 1,
        0, 1, -1, 0, 0, 0, 0, 1,
        1, 0, 0, 0, 0, 0, 0, 1,
        0, 1, 0, 0, 0, 0, 1, 0,
        0, 0, 0, 1, 0, 1, 0, 0
    };

    private final Stream[] streams = new Stream[MOST_STREAMS];
    private final Stream one = new Stream();
    private final long[] rowStarts = new long[MOST_ROWS];
    private final long[] rowSteps = new long[MOST_ROWS];
    private int rowsTold = 0;
    private final long[] factors = new long[8];
    private final Outcome outcome = new Outcome();
    private final RootWalk walk = new RootWalk();
    private final Maker maker = new Maker();
    private final Nears nears = new Nears();
    private final Seeker seeker = new Seeker();
    private final Figures figures = new Figures();

    public RatioStreams() {
        for (int i = 0; i < MOST_STREAMS; i++) {
            streams[i] = new Stream();
        }
        one.becomeRatio(1, 1);
    }

    // ---- streams

    public long ratio(long u, long v) {
        if (isFar(u) || isFar(v) || v == 0) {
            return OUTSIDE;
        }
        int free = leastFree();
        if (free == NONE) {
            return FULL;
        }
        outcome.become(u, 0, 0, v);
        return placeOutcome(free);
    }

    public long root(int a, int b, int n, int d) {
        if (beyond(a, 10000) || beyond(b, 100) || beyond(d, 1000) || d == 0 || n < 0 || n > 1000) {
            return OUTSIDE;
        }
        int free = leastFree();
        if (free == NONE) {
            return FULL;
        }
        int side = sideOfGreatestSquareIn(n);
        int rest = side == 0 ? 1 : n / (side * side);
        if (rest == 1) {
            outcome.become((long) a + (long) b * side, 0, 0, d);
        } else {
            outcome.become(a, (long) b * side, rest, d);
        }
        return placeOutcome(free);
    }

    public long row(int a, int b) {
        if (a < 1 || a > MILLION || b < 0 || b > MILLION) {
            return OUTSIDE;
        }
        if (rowsTold >= MOST_ROWS) {
            return FULL;
        }
        rowStarts[rowsTold] = a;
        rowSteps[rowsTold] = b;
        rowsTold++;
        return rowsTold;
    }

    public long rule(int p0) {
        if (beyond(p0, MILLION)) {
            return OUTSIDE;
        }
        if (rowsTold == 0) {
            return STATE;
        }
        int free = leastFree();
        if (free == NONE) {
            return FULL;
        }
        fillRule(streams[free], p0);
        rowsTold = 0;
        return place(free);
    }

    public long act(int how, int x, int y) {
        Stream left = find(x);
        Stream right = find(y);
        if (left == null || right == null) {
            return UNKNOWN;
        }
        if (how < ADD || how > OVER) {
            return OUTSIDE;
        }
        if (how == OVER && right.isZeroRatio()) {
            return STATE;
        }
        int free = leastFree();
        if (free == NONE) {
            return FULL;
        }
        if (isExactAct(left, right)) {
            outcome.work(how, left, right);
            return placeOutcome(free);
        }
        maker.startWithAct(how);
        maker.make(streams[free], left, right);
        return place(free);
    }

    public long turn(int x) {
        Stream below = find(x);
        if (below == null) {
            return UNKNOWN;
        }
        if (below.isZeroRatio()) {
            return STATE;
        }
        int free = leastFree();
        if (free == NONE) {
            return FULL;
        }
        if (isExactAct(one, below)) {
            outcome.work(OVER, one, below);
            return placeOutcome(free);
        }
        maker.startWithAct(TURN);
        maker.make(streams[free], below, below);
        return place(free);
    }

    public long factor(int i, int v) {
        if (i < 0 || i >= factors.length || beyond(v, MILLION)) {
            return OUTSIDE;
        }
        long was = factors[i];
        factors[i] = v;
        return was;
    }

    public long mix(int x, int y) {
        Stream left = find(x);
        Stream right = find(y);
        if (left == null || right == null) {
            return UNKNOWN;
        }
        boolean exactly = left.kind == RATIO && right.kind == RATIO;
        if (exactly) {
            outcome.workMix(factors, left, right);
            if (outcome.d == 0) {
                return STATE;
            }
        }
        int free = leastFree();
        if (free == NONE) {
            return FULL;
        }
        if (exactly) {
            return placeOutcome(free);
        }
        maker.startWith(factors);
        maker.make(streams[free], left, right);
        return place(free);
    }

    public long drop(int s) {
        Stream stream = find(s);
        if (stream == null) {
            return UNKNOWN;
        }
        stream.there = false;
        return howManyStreams();
    }

    // ---- what is told

    public long told(int s, int what) {
        Stream stream = find(s);
        if (stream == null) {
            return UNKNOWN;
        }
        switch (what) {
            case 0:
                return stream.kind;
            case 1:
                return stream.known;
            case 2:
                return stream.ends ? 1 : 0;
            case 3:
                return stream.taken;
            case 4:
                return stream.isOpen() ? 1 : 0;
            default:
                return OUTSIDE;
        }
    }

    public long part(int s, int k) {
        Stream stream = find(s);
        if (stream == null) {
            return UNKNOWN;
        }
        if (stream.isBeyond(k)) {
            return OUTSIDE;
        }
        return k < stream.known ? stream.partAt(k) : ISOPEN;
    }

    public long exact(int s, int what) {
        Stream stream = find(s);
        if (stream == null) {
            return UNKNOWN;
        }
        if (what < 0 || what > (stream.kind == RATIO ? 1 : 3)) {
            return OUTSIDE;
        }
        if (stream.kind == RATIO) {
            return what == 0 ? stream.a : stream.d;
        }
        return stream.kind == ROOT ? numberOfRoot(stream, what) : STATE;
    }

    public long round(int s, int what) {
        Stream stream = find(s);
        if (stream == null) {
            return UNKNOWN;
        }
        if (what != 0 && what != 1) {
            return OUTSIDE;
        }
        if (stream.kind != ROOT) {
            return STATE;
        }
        walk.go(stream);
        if (!walk.comesRound()) {
            return ISOPEN;
        }
        return what == 0 ? walk.from : walk.length;
    }

    public long sign(int s) {
        Stream stream = find(s);
        if (stream == null) {
            return UNKNOWN;
        }
        if (stream.known == 0) {
            return ISOPEN;
        }
        long first = stream.partAt(0);
        if (first != 0) {
            return first < 0 ? -1 : 1;
        }
        if (stream.known > 1) {
            return 1;
        }
        return stream.ends ? 0 : ISOPEN;
    }

    public long compare(int x, int y) {
        Stream left = find(x);
        Stream right = find(y);
        if (left == null || right == null) {
            return UNKNOWN;
        }
        // Their PARTS never end, so only the four numbers can tell that they are alike.
        if (left.isSameRoot(right)) {
            return 0;
        }
        return left.heldAgainst(right);
    }

    public long near(int s, int k, int what) {
        Stream stream = find(s);
        if (stream == null) {
            return UNKNOWN;
        }
        if (stream.isBeyond(k) || what < 0 || what > 1) {
            return OUTSIDE;
        }
        nears.workOut(stream);
        // ISFAR is looked at ahead of ISOPEN, so of a PART that is not KNOWN, too.
        if (k >= nears.fit && nears.fit < stream.known) {
            return ISFAR;
        }
        if (k >= stream.known) {
            return ISOPEN;
        }
        return what == 0 ? nears.upperAt(k) : nears.lowerAt(k);
    }

    public long best(int s, int most, int how, int what) {
        Stream stream = find(s);
        if (stream == null) {
            return UNKNOWN;
        }
        if (most < 1 || most > MILLION || how < NEAREST || how > NOT_BELOW || what < 0 || what > 1) {
            return OUTSIDE;
        }
        nears.workOut(stream);
        long trouble = seeker.seek(stream, nears, most);
        if (trouble != 0) {
            return trouble;
        }
        if (how != NEAREST) {
            return seeker.tell(how == NOT_BELOW, what);
        }
        long side = seeker.againstMiddle(stream);
        if (side == ISFAR || side == ISOPEN) {
            return side;
        }
        return seeker.tell(side > 0 || side == 0 && seeker.upperIsSimpler(), what);
    }

    public long figure(int s, int base, int k) {
        Stream stream = find(s);
        if (stream == null) {
            return UNKNOWN;
        }
        if (base < 2 || base > 36 || k < 0 || k > 40) {
            return OUTSIDE;
        }
        nears.workOut(stream);
        if (stream.ends) {
            return figures.ofRatio(stream, nears, base, k);
        }
        return figures.ofSpan(nears, base, k);
    }

    public long roll(int i, int what) {
        if (i == NONE) {
            return maker.steps;
        }
        if (i < 0 || i >= maker.steps || what < 0 || what >= STEP_WIDTH) {
            return OUTSIDE;
        }
        return maker.stepTold(i, what);
    }

    public long count(int what) {
        switch (what) {
            case 0:
                return howManyStreams();
            case 1:
                return rowsTold;
            case 2:
                return howManyOpen();
            default:
                return OUTSIDE;
        }
    }

    // ---- helpers of the calls

    private Stream find(int s) {
        if (s < 0 || s >= MOST_STREAMS) {
            return null;
        }
        Stream stream = streams[s];
        return stream.there ? stream : null;
    }

    private int leastFree() {
        for (int i = 0; i < MOST_STREAMS; i++) {
            if (!streams[i].there) {
                return i;
            }
        }
        return NONE;
    }

    private long place(int free) {
        streams[free].there = true;
        return free;
    }

    private long placeOutcome(int free) {
        if (!outcome.bringToLeastTerms()) {
            return ISFAR;
        }
        Stream stream = streams[free];
        if (outcome.b == 0) {
            stream.becomeRatio(outcome.a, outcome.d);
        } else {
            stream.becomeRoot(outcome, walk);
        }
        return place(free);
    }

    private void fillRule(Stream stream, int p0) {
        stream.start(RULE);
        stream.addPart(p0);
        int row = 0;
        long times = 0;
        for (int k = 1; k < MOST_PARTS; k++) {
            stream.addPart(rowStarts[row] + times * rowSteps[row]);
            row++;
            if (row >= rowsTold) {
                row = 0;
                times++;
            }
        }
    }

    private int howManyStreams() {
        int many = 0;
        for (int i = 0; i < MOST_STREAMS; i++) {
            if (streams[i].there) {
                many++;
            }
        }
        return many;
    }

    private int howManyOpen() {
        int many = 0;
        for (int i = 0; i < MOST_STREAMS; i++) {
            if (streams[i].there && streams[i].isOpen()) {
                many++;
            }
        }
        return many;
    }

    private static boolean isExactAct(Stream x, Stream y) {
        if (x.kind > ROOT || y.kind > ROOT) {
            return false;
        }
        return x.kind == RATIO || y.kind == RATIO || x.n == y.n;
    }

    private static long numberOfRoot(Stream root, int what) {
        switch (what) {
            case 0:
                return root.a;
            case 1:
                return root.b;
            case 2:
                return root.n;
            default:
                return root.d;
        }
    }

    /** Of 0 it is 0, since the root of 0 is. */
    private static int sideOfGreatestSquareIn(int n) {
        if (n <= 0) {
            return 0;
        }
        for (int side = 31; side > 1; side--) {
            if (n % (side * side) == 0) {
                return side;
            }
        }
        return 1;
    }

    private static boolean beyond(int value, int most) {
        return value > most || value < -most;
    }

    // ---- whole numbers that know when they are FAR

    private static boolean isFar(long value) {
        return value > GREATEST || value < -GREATEST;
    }

    private static long plus(long x, long y) {
        if (isFar(x) || isFar(y)) {
            return FAR;
        }
        return isFar(x + y) ? FAR : x + y;
    }

    private static long minus(long x, long y) {
        return isFar(y) ? FAR : plus(x, -y);
    }

    private static long times(long x, long y) {
        if (isFar(x) || isFar(y)) {
            return FAR;
        }
        if (x == 0 || y == 0) {
            return 0;
        }
        return Math.abs(x) > GREATEST / Math.abs(y) ? FAR : x * y;
    }

    private static long greatestCommonDivisor(long x, long y) {
        long big = x < 0 ? -x : x;
        long small = y < 0 ? -y : y;
        // Numbers up to GREATEST need less than 80 rounds.
        for (int i = 0; i < 100 && small != 0; i++) {
            long rest = big % small;
            big = small;
            small = rest;
        }
        return big;
    }

    /** The greatest whole number whose square is not above one of 0 .. 2^52. */
    private static long sideBelow(long square) {
        long side = 0;
        for (long bit = 1L << 25; bit > 0; bit >>= 1) {
            long tried = side + bit;
            if (tried * tried <= square) {
                side = tried;
            }
        }
        return side;
    }

    private static long floorOf(long upper, long lower) {
        return lower == 0 ? 0 : Math.floorDiv(upper, lower);
    }

    /** One number with its PARTS; a slot of the bench that is used again behind drop(). */
    private static final class Stream {
        private final long[] parts = new long[MOST_PARTS];
        private boolean there = false;
        private int kind = RATIO;
        private int known = 0;
        private boolean ends = false;
        private int taken = 0;
        private long a = 0;
        private long b = 0;
        private long n = 0;
        private long d = 1;

        private void start(int newKind) {
            kind = newKind;
            known = 0;
            ends = false;
            taken = 0;
            a = 0;
            b = 0;
            n = 0;
            d = 1;
        }

        private void addPart(long p) {
            if (known < MOST_PARTS) {
                parts[known] = p;
                known++;
            }
        }

        private long partAt(int k) {
            return k >= 0 && k < MOST_PARTS ? parts[k] : 0;
        }

        /** u / v is in least terms, v above 0. */
        private void becomeRatio(long u, long v) {
            start(RATIO);
            a = u;
            d = v;
            long upper = u;
            long lower = v;
            for (int k = 0; k < MOST_PARTS && lower != 0; k++) {
                long whole = Math.floorDiv(upper, lower);
                addPart(whole);
                long rest = upper - whole * lower;
                upper = lower;
                lower = rest;
            }
            ends = lower == 0;
        }

        private void becomeRoot(Outcome from, RootWalk walk) {
            start(ROOT);
            a = from.a;
            b = from.b;
            n = from.n;
            d = from.d;
            walk.go(this);
            for (int k = 0; k < MOST_PARTS; k++) {
                addPart(walk.wholes[k]);
            }
        }

        private boolean isZeroRatio() {
            return kind == RATIO && a == 0;
        }

        private boolean isOpen() {
            return kind == MADE && !ends && known < MOST_PARTS;
        }

        private boolean isBeyond(int k) {
            return k < 0 || ends && k >= known;
        }

        private boolean isSameRoot(Stream other) {
            return kind == ROOT && other.kind == ROOT
                && a == other.a && b == other.b && n == other.n && d == other.d;
        }

        /** -1, 0, 1 or ISOPEN; behind the last PART of one that ENDS stands one without end. */
        private long heldAgainst(Stream other) {
            for (int k = 0; k <= MOST_PARTS; k++) {
                boolean over = k >= known;
                boolean otherOver = k >= other.known;
                if (over && !ends || otherOver && !other.ends) {
                    return ISOPEN;
                }
                if (over && otherOver) {
                    return 0;
                }
                if (over || otherOver || partAt(k) != other.partAt(k)) {
                    boolean lesserPart = otherOver || !over && partAt(k) < other.partAt(k);
                    return lesserPart == (k % 2 == 0) ? -1 : 1;
                }
            }
            return ISOPEN;
        }
    }

    /** What comes of an EXACT act: (a + b R) / d with R the root of n; b 0 of a RATIO. */
    private static final class Outcome {
        private long a = 0;
        private long b = 0;
        private long n = 0;
        private long d = 1;

        private void become(long newA, long newB, long newN, long newD) {
            a = newA;
            b = newB;
            n = newN;
            d = newD;
        }

        private void work(int how, Stream x, Stream y) {
            n = x.kind == ROOT ? x.n : y.n;
            switch (how) {
                case ADD:
                    a = plus(times(x.a, y.d), times(y.a, x.d));
                    b = plus(times(x.b, y.d), times(y.b, x.d));
                    d = times(x.d, y.d);
                    break;
                case TAKE_AWAY:
                    a = minus(times(x.a, y.d), times(y.a, x.d));
                    b = minus(times(x.b, y.d), times(y.b, x.d));
                    d = times(x.d, y.d);
                    break;
                case TIMES:
                    a = plus(times(x.a, y.a), times(times(x.b, y.b), n));
                    b = plus(times(x.a, y.b), times(y.a, x.b));
                    d = times(x.d, y.d);
                    break;
                default:
                    workOver(x, y);
                    break;
            }
        }

        private void workOver(Stream x, Stream y) {
            if (y.kind == RATIO) {
                a = times(x.a, y.d);
                b = times(x.b, y.d);
                d = times(x.d, y.a);
                return;
            }
            a = times(minus(times(x.a, y.a), times(times(x.b, y.b), n)), y.d);
            b = times(minus(times(x.b, y.a), times(x.a, y.b)), y.d);
            d = times(minus(times(y.a, y.a), times(times(y.b, y.b), n)), x.d);
        }

        private void workMix(long[] factors, Stream x, Stream y) {
            become(mixed(factors, 0, x, y), 0, 0, mixed(factors, 4, x, y));
        }

        private static long mixed(long[] factors, int first, Stream x, Stream y) {
            if (first < 0 || first + 3 >= factors.length) {
                return FAR;
            }
            long sum = times(times(factors[first], x.a), y.a);
            sum = plus(sum, times(times(factors[first + 1], x.a), y.d));
            sum = plus(sum, times(times(factors[first + 2], y.a), x.d));
            return plus(sum, times(times(factors[first + 3], x.d), y.d));
        }

        /** False, if something is FAR. */
        private boolean bringToLeastTerms() {
            if (isFar(a) || isFar(b) || isFar(d) || d == 0) {
                return false;
            }
            long divisor = greatestCommonDivisor(greatestCommonDivisor(d, a), b);
            if (divisor == 0) {
                return false;
            }
            long signed = d < 0 ? -divisor : divisor;
            a /= signed;
            b /= signed;
            d /= signed;
            return b == 0 || !isFarRoot();
        }

        private boolean isFarRoot() {
            // Above 3163 b b alone is above 10^7; the test keeps b b n within a long.
            return d > 10000 || Math.abs(a) > 1000000000L || Math.abs(b) > 3163 || b * b * n > 10000000L;
        }
    }

    /** The TAILS of a ROOT: each is (ups + R) / lows, R the root of one number for all of them. */
    private static final class RootWalk {
        private final long[] ups = new long[MOST_PARTS + 1];
        private final long[] lows = new long[MOST_PARTS + 1];
        private final long[] wholes = new long[MOST_PARTS + 1];
        private int from = 0;
        private int length = 0;

        private void go(Stream root) {
            // Widened by d, so that each lower number divides what it has to without a rest.
            long square = root.b * root.b * root.n * root.d * root.d;
            long side = sideBelow(square);
            long signed = root.b < 0 ? -root.d : root.d;
            long up = root.a * signed;
            long low = root.d * signed;
            for (int k = 0; k <= MOST_PARTS && low != 0; k++) {
                long whole = wholeBelow(up + side, low);
                ups[k] = up;
                lows[k] = low;
                wholes[k] = whole;
                up = whole * low - up;
                low = (square - up * up) / low;
            }
        }

        /** Of what lies strictly between upper and upper + 1, by lower. */
        private static long wholeBelow(long upper, long lower) {
            return lower > 0 ? floorOf(upper, lower) : -floorOf(upper, -lower) - 1;
        }

        private boolean comesRound() {
            for (int i = 0; i < MOST_PARTS; i++) {
                for (int k = i + 1; k <= MOST_PARTS; k++) {
                    if (ups[i] == ups[k] && lows[i] == lows[k]) {
                        from = i;
                        length = k - i;
                        return true;
                    }
                }
            }
            return false;
        }
    }

    /** One of the two NUMBERS that a STREAM is MADE of. */
    private static final class Source {
        private final int number;
        /** How far apart those of a .. h stand that differ just in holding this NUMBER. */
        private final int stride;
        private Stream stream = null;
        private int taken = 0;
        private boolean out = false;

        private Source(int number, int stride) {
            this.number = number;
            this.stride = stride;
        }

        private void startWith(Stream newStream) {
            stream = newStream;
            taken = 0;
            out = false;
        }

        private boolean hasEnded() {
            return stream != null && stream.ends && taken >= stream.known;
        }
    }

    /** Makes the PARTS of f(x, y), and keeps THE ROLL of its latest work. */
    private static final class Maker {
        private final Source x = new Source(0, 2);
        private final Source y = new Source(1, 1);
        private final long[] now = new long[8];
        private final long[] next = new long[8];
        private final long[] uppers = new long[4];
        private final long[] lowers = new long[4];
        private int corners = 0;
        private final long[] rolled = new long[MOST_STEPS * STEP_WIDTH];
        private int steps = 0;

        private void startWithAct(int how) {
            for (int i = 0; i < 8; i++) {
                int place = how * 8 + i;
                now[i] = place >= 0 && place < ACT_FACTORS.length ? ACT_FACTORS[place] : 0;
            }
        }

        private void startWith(long[] factors) {
            for (int i = 0; i < 8 && i < factors.length; i++) {
                now[i] = factors[i];
            }
        }

        private void make(Stream into, Stream left, Stream right) {
            into.start(MADE);
            x.startWith(left);
            y.startWith(right);
            steps = 0;
            boolean going = true;
            for (int i = 0; i <= MOST_STEPS && going; i++) {
                going = goOn(into);
            }
            into.taken = x.taken + y.taken;
        }

        private boolean goOn(Stream into) {
            if (x.out && y.out && now[7] == 0) {
                into.ends = into.known > 0;
                return false;
            }
            if (into.known >= MOST_PARTS) {
                return false;
            }
            if (x.taken > 0 && y.taken > 0) {
                if (!workOutCorners()) {
                    return false;
                }
                if (cornersAgree()) {
                    return giveTo(into, floorOf(uppers[0], lowers[0]));
                }
            }
            boolean fromX = !x.out && (y.out || x.taken <= y.taken);
            return takeFrom(fromX ? x : y);
        }

        /** False, if a sum is FAR. */
        private boolean workOutCorners() {
            corners = (x.out ? 1 : 2) * (y.out ? 1 : 2);
            return fillCorners(uppers, 0) && fillCorners(lowers, 4);
        }

        private boolean fillCorners(long[] row, int first) {
            long a = now[first];
            long b = now[first + 1];
            long c = now[first + 2];
            long d = now[first + 3];
            if (x.out && y.out) {
                row[0] = d;
            } else if (x.out) {
                row[0] = plus(c, d);
                row[1] = c;
            } else if (y.out) {
                row[0] = plus(b, d);
                row[1] = b;
            } else {
                row[0] = plus(plus(plus(a, b), c), d);
                row[1] = plus(a, b);
                row[2] = plus(a, c);
                row[3] = a;
            }
            for (int i = 0; i < corners; i++) {
                if (isFar(row[i])) {
                    return false;
                }
            }
            return true;
        }

        private boolean cornersAgree() {
            for (int i = 0; i < corners; i++) {
                if (lowers[i] == 0 || (lowers[i] < 0) != (lowers[0] < 0)) {
                    return false;
                }
            }
            long whole = floorOf(uppers[0], lowers[0]);
            for (int i = 1; i < corners; i++) {
                if (floorOf(uppers[i], lowers[i]) != whole) {
                    return false;
                }
            }
            return true;
        }

        private boolean giveTo(Stream into, long part) {
            for (int i = 0; i < 4; i++) {
                next[i] = now[i + 4];
                next[i + 4] = minus(now[i], times(part, now[i + 4]));
            }
            if (!keepStep(GIVEN_STEP, part)) {
                return false;
            }
            into.addPart(part);
            return true;
        }

        private boolean takeFrom(Source source) {
            if (source.stream == null || source.out || source.taken >= source.stream.known) {
                return false;
            }
            if (!takePart(source, source.stream.partAt(source.taken))) {
                return false;
            }
            // Nothing is GIVEN, no CORNER is looked at and the other side has no turn between a last PART and OUT.
            return !source.hasEnded() || takeEnd(source);
        }

        private boolean takePart(Source source, long part) {
            for (int i = 0; i < 8; i++) {
                int other = i ^ source.stride;
                boolean holds = i < other;
                next[i] = holds ? plus(times(now[i], part), now[other]) : now[other];
            }
            if (!keepStep(TAKEN_STEP + source.number, part)) {
                return false;
            }
            source.taken++;
            return true;
        }

        private boolean takeEnd(Source source) {
            for (int i = 0; i < 8; i++) {
                int other = i ^ source.stride;
                next[i] = i < other ? 0 : now[other];
            }
            source.out = true;
            return keepStep(OUT_STEP + source.number, 0);
        }

        /** False, and nothing is changed, if one of the next eight is FAR. */
        private boolean keepStep(int step, long part) {
            long divisor = 0;
            for (int i = 0; i < 8; i++) {
                if (isFar(next[i])) {
                    return false;
                }
                if (divisor != 1) {
                    divisor = greatestCommonDivisor(divisor, next[i]);
                }
            }
            for (int i = 0; i < 8; i++) {
                now[i] = divisor > 1 ? next[i] / divisor : next[i];
            }
            rollOn(step, part);
            return true;
        }

        private void rollOn(int step, long part) {
            if (steps >= MOST_STEPS) {
                return;
            }
            int first = steps * STEP_WIDTH;
            rolled[first] = step;
            rolled[first + 1] = part;
            for (int i = 0; i < 8; i++) {
                rolled[first + 2 + i] = now[i];
            }
            steps++;
        }

        private long stepTold(int i, int what) {
            int place = i * STEP_WIDTH + what;
            return place >= 0 && place < rolled.length ? rolled[place] : OUTSIDE;
        }
    }

    /** The NEAR numbers of one STREAM at a time. */
    private static final class Nears {
        private final long[] uppers = new long[MOST_PARTS];
        private final long[] lowers = new long[MOST_PARTS];
        /** How many, from the first one on, are not FAR. */
        private int fit = 0;

        private void workOut(Stream stream) {
            fit = 0;
            for (int k = 0; k < MOST_PARTS && k < stream.known; k++) {
                long part = stream.partAt(k);
                long upper = plus(times(part, upperAt(k - 1)), upperAt(k - 2));
                long lower = plus(times(part, lowerAt(k - 1)), lowerAt(k - 2));
                if (isFar(upper) || isFar(lower)) {
                    return;
                }
                uppers[k] = upper;
                lowers[k] = lower;
                fit++;
            }
        }

        /** k may be -1 and -2, too. */
        private long upperAt(int k) {
            if (k < 0) {
                return k == -1 ? 1 : 0;
            }
            return k < MOST_PARTS ? uppers[k] : 0;
        }

        private long lowerAt(int k) {
            if (k < 0) {
                return k == -1 ? 0 : 1;
            }
            return k < MOST_PARTS ? lowers[k] : 1;
        }

        /** The last k that THE SPAN may be told by; NONE, if there is no SPAN. */
        private int lastForSpan() {
            for (int k = 0; k < fit; k++) {
                boolean small = isSmall(upperAt(k)) && isSmall(upperAt(k) + upperAt(k - 1))
                    && isSmall(lowerAt(k)) && isSmall(lowerAt(k) + lowerAt(k - 1));
                if (!small) {
                    return k - 1;
                }
            }
            return fit - 1;
        }

        private static boolean isSmall(long value) {
            return value <= SPAN_MOST && value >= -SPAN_MOST;
        }
    }

    /** Looks for the two ratios next to a NUMBER, one not above and one not below it. */
    private static final class Seeker {
        private long belowUpper = 0;
        private long belowLower = 1;
        private long aboveUpper = 0;
        private long aboveLower = 1;
        private final Outcome middle = new Outcome();
        private final Stream middleStream = new Stream();

        /** 0, ISFAR or ISOPEN. */
        private long seek(Stream stream, Nears nears, long most) {
            for (int k = 0; k < nears.fit; k++) {
                if (nears.lowerAt(k) > most) {
                    settleAhead(nears, k, most);
                    return 0;
                }
            }
            if (nears.fit < stream.known) {
                return ISFAR;
            }
            if (!stream.ends) {
                return ISOPEN;
            }
            setSide(true, nears.upperAt(nears.fit - 1), nears.lowerAt(nears.fit - 1));
            setSide(false, nears.upperAt(nears.fit - 1), nears.lowerAt(nears.fit - 1));
            return 0;
        }

        /** k is the first one whose lower number is above most, so it is not 0. */
        private void settleAhead(Nears nears, int k, long most) {
            long lower = nears.lowerAt(k - 1);
            long often = floorOf(most - nears.lowerAt(k - 2), lower);
            boolean evenAhead = (k - 1) % 2 == 0;
            setSide(evenAhead, nears.upperAt(k - 1), lower);
            setSide(!evenAhead, nears.upperAt(k - 2) + often * nears.upperAt(k - 1),
                nears.lowerAt(k - 2) + often * lower);
        }

        private void setSide(boolean below, long upper, long lower) {
            if (below) {
                belowUpper = upper;
                belowLower = lower;
            } else {
                aboveUpper = upper;
                aboveLower = lower;
            }
        }

        /** How the NUMBER stands to the middle of both: -1, 0, 1, ISFAR or ISOPEN. */
        private long againstMiddle(Stream stream) {
            long upper = plus(times(belowUpper, aboveLower), times(aboveUpper, belowLower));
            long lower = times(times(2, belowLower), aboveLower);
            middle.become(upper, 0, 0, lower);
            if (!middle.bringToLeastTerms()) {
                return ISFAR;
            }
            middleStream.becomeRatio(middle.a, middle.d);
            return stream.heldAgainst(middleStream);
        }

        private boolean upperIsSimpler() {
            return aboveLower < belowLower;
        }

        private long tell(boolean above, int what) {
            if (above) {
                return what == 0 ? aboveUpper : aboveLower;
            }
            return what == 0 ? belowUpper : belowLower;
        }
    }

    /** The whole number and the figures of a NUMBER, of a RATIO or within THE SPAN. */
    private static final class Figures {
        private long low = 0;
        private long lowRest = 0;
        private long high = 0;
        private long highRest = 0;

        private long ofRatio(Stream stream, Nears nears, int base, int k) {
            if (nears.fit < stream.known) {
                return ISFAR;
            }
            long lower = nears.lowerAt(nears.fit - 1);
            if (isFar(times(36, lower))) {
                return ISFAR;
            }
            splitLow(nears.upperAt(nears.fit - 1), lower);
            for (int i = 1; i <= k; i++) {
                splitLow(lowRest * base, lower);
            }
            return low;
        }

        private long ofSpan(Nears nears, int base, int k) {
            int last = nears.lastForSpan();
            if (last < 0) {
                return ISOPEN;
            }
            boolean even = last % 2 == 0;
            long farUpper = nears.upperAt(last) + nears.upperAt(last - 1);
            long farLower = nears.lowerAt(last) + nears.lowerAt(last - 1);
            long lowLower = even ? nears.lowerAt(last) : farLower;
            long highLower = even ? farLower : nears.lowerAt(last);
            splitLow(even ? nears.upperAt(last) : farUpper, lowLower);
            splitHigh(even ? farUpper : nears.upperAt(last), highLower);
            for (int i = 1; i <= k && low == high; i++) {
                splitLow(lowRest * base, lowLower);
                splitHigh(highRest * base, highLower);
            }
            return low == high ? low : ISOPEN;
        }

        private void splitLow(long upper, long lower) {
            low = floorOf(upper, lower);
            lowRest = upper - low * lower;
        }

        /** The end of THE SPAN is no part of it: what lies just below counts, with a rest up to lower. */
        private void splitHigh(long upper, long lower) {
            high = -floorOf(-upper, lower) - 1;
            highRest = upper - high * lower;
        }
    }
}
