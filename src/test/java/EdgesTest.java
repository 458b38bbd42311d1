import java.util.function.IntToLongFunction;
import java.util.function.LongUnaryOperator;

/** Promises 1 to 21, each bound by the last number within it and the first one outside it. */
public final class EdgesTest {
    private static final Check check = new Check("EdgesTest");
    private static final long GREATEST = 1000000000000000L;
    private static final int MILLION = 1000000;

    public static void main(String[] args) {
        constants();
        newObject();
        ratio();
        ratioInLeastTerms();
        root();
        rootOfSquares();
        row();
        rule();
        rowsBehindRule();
        act();
        actOverZero();
        turn();
        factor();
        mix();
        drop();
        dropWhatOthersAreMadeOf();
        slotUsedAgain();
        told();
        part();
        exact();
        round();
        sign();
        compareAtTheLastPart();
        compareRoots();
        near();
        bestBounds();
        bestAtItsMost();
        bestIsOpen();
        bestMiddleIsFar();
        bestNearIsFar();
        bestOfTwoAsNear();
        figureBounds();
        figureOfLargeLower();
        figureOfSixtyParts();
        figureWithinTheSpan();
        roll();
        longestRoll();
        rollStays();
        count();
        check.end();
    }

    /** What is asked with least .. most is answered, one below and one above is OUTSIDE. */
    private static void bounds(String name, int least, int most, IntToLongFunction call) {
        for (int within : new int[] {least, most}) {
            check.due(name + " " + within + " is within", call.applyAsLong(within) == Check.OUTSIDE ? 1 : 0, 0);
        }
        for (int outside : new int[] {least - 1, most + 1, Integer.MIN_VALUE, Integer.MAX_VALUE}) {
            check.due(name + " " + outside, call.applyAsLong(outside), Check.OUTSIDE);
        }
    }

    private static void factors(RatioStreams b, int... eight) {
        for (int i = 0; i < 8; i++) {
            b.factor(i, eight[i]);
        }
    }

    private static int rule(RatioStreams b, int p0, int... rows) {
        for (int a : rows) {
            b.row(a, 0);
        }
        return (int) b.rule(p0);
    }

    /** A STREAM that is u / v, but never told to END. */
    private static int madeOf(RatioStreams b, int some, int u, int v) {
        factors(b, 0, 0, 0, u, 0, 0, 0, v);
        return (int) b.mix(some, some);
    }

    // ---- the face

    private static void constants() {
        check.due("NONE", RatioStreams.NONE, -1);
        check.due("UNKNOWN", RatioStreams.UNKNOWN, -2000000000000000001L);
        check.due("OUTSIDE", RatioStreams.OUTSIDE, -2000000000000000002L);
        check.due("STATE", RatioStreams.STATE, -2000000000000000003L);
        check.due("FULL", RatioStreams.FULL, -2000000000000000004L);
        check.due("ISFAR", RatioStreams.ISFAR, -2000000000000000005L);
        check.due("ISOPEN", RatioStreams.ISOPEN, -2000000000000000006L);
    }

    // ---- promise 1

    private static void newObject() {
        RatioStreams old = new RatioStreams();
        old.row(1, 1);
        old.rule(1);
        old.act(0, 0, 0);
        old.factor(0, 5);
        old.row(2, 2);
        RatioStreams b = new RatioStreams();
        check.due("no STREAMS", b.count(0), 0);
        check.due("no ROWS", b.count(1), 0);
        check.due("none open", b.count(2), 0);
        check.due("THE ROLL", b.roll(Check.NONE, 0), 0);
        check.due("the eight", b.factor(0, 0), 0);
        check.due("the first", b.ratio(1, 1), 0);
    }

    // ---- promise 2

    private static void ratio() {
        long[] within = {GREATEST, -GREATEST, GREATEST - 1, 0};
        long[] outside = {GREATEST + 1, -GREATEST - 1, Long.MAX_VALUE, Long.MIN_VALUE, Long.MIN_VALUE + 1};
        for (long u : within) {
            RatioStreams b = new RatioStreams();
            check.due("u " + u, b.ratio(u, 1), 0);
            check.dueExact(b, 0, u, 1);
            check.due("v 0", b.ratio(u, 0), Check.OUTSIDE);
            for (long v : within) {
                check.due("u " + u + ", v " + v, b.ratio(u, v), v == 0 ? Check.OUTSIDE : b.count(0) - 1);
            }
            for (long v : outside) {
                check.due("v " + v, b.ratio(u, v), Check.OUTSIDE);
                check.due("u " + v, b.ratio(v, 1), Check.OUTSIDE);
                check.due("both " + v, b.ratio(v, v), Check.OUTSIDE);
                check.due("u " + v + " by 0", b.ratio(v, 0), Check.OUTSIDE);
            }
            check.due("count", b.count(0), 4);
        }
        RatioStreams b = new RatioStreams();
        b.ratio(1, GREATEST);
        check.dueExact(b, 0, 1, GREATEST);
        b.ratio(1, -GREATEST);
        check.dueExact(b, 1, -1, GREATEST);
    }

    private static void ratioInLeastTerms() {
        RatioStreams b = new RatioStreams();
        b.ratio(0, GREATEST);
        check.dueExact(b, 0, 0, 1);
        b.ratio(0, -1);
        check.dueExact(b, 1, 0, 1);
        b.ratio(-GREATEST, -GREATEST);
        check.dueExact(b, 2, 1, 1);
        b.ratio(GREATEST, GREATEST - 1);
        check.dueExact(b, 3, GREATEST, GREATEST - 1);
        b.ratio(GREATEST, 2 - GREATEST);
        check.dueExact(b, 4, -GREATEST / 2, GREATEST / 2 - 1);
    }

    // ---- promise 3

    private static void root() {
        RatioStreams b = new RatioStreams();
        LongUnaryOperator dropped = s -> {
            b.drop((int) s);
            return s;
        };
        bounds("a", -10000, 10000, a -> dropped.applyAsLong(b.root(a, 1, 2, 1)));
        bounds("b", -100, 100, often -> dropped.applyAsLong(b.root(0, often, 2, 1)));
        bounds("n", 0, 1000, n -> dropped.applyAsLong(b.root(0, 1, n, 1)));
        bounds("d", -1000, 1000, d -> dropped.applyAsLong(b.root(0, 1, 2, d)));
        bounds("a, though b is 0", -10000, 10000, a -> dropped.applyAsLong(b.root(a, 0, 2, 1)));
        bounds("b, though n is 0", -100, 100, often -> dropped.applyAsLong(b.root(0, often, 0, 1)));
        bounds("n, though b is 0", 0, 1000, n -> dropped.applyAsLong(b.root(0, 0, n, 1)));
        check.due("d 0", b.root(0, 1, 2, 0), Check.OUTSIDE);
        check.due("d 0 of a RATIO", b.root(0, 0, 0, 0), Check.OUTSIDE);
        check.due("all dropped", b.count(0), 0);
        check.due("all at their most", b.root(10000, 100, 1000, 1000), 0);
        check.dueExact(b, 0, 10, 1, 10, 1);
        check.due("all at their least", b.root(-10000, -100, 999, -1000), 1);
        check.dueExact(b, 1, 100, 3, 111, 10);
    }

    /** "a RATIO, if n is a square, or b is 0; squares in n come to b": of each n. */
    private static void rootOfSquares() {
        for (int n = 0; n <= 1000; n++) {
            int side = 1;
            for (int i = 2; i <= 31; i++) {
                side = n % (i * i) == 0 ? i : side;
            }
            int rest = n / (side * side);
            RatioStreams b = new RatioStreams();
            b.root(1, -1, n, 1);
            boolean square = n == 0 || rest == 1;
            check.due("KIND with n " + n, b.told(0, 0), square ? 0 : 1);
            if (square) {
                check.dueExact(b, 0, n == 0 ? 1 : 1 - side, 1, Check.OUTSIDE);
            } else {
                check.dueExact(b, 0, 1, -side, rest, 1, Check.OUTSIDE);
            }
            b.root(6, 0, n, -4);
            check.due("KIND with b 0, n " + n, b.told(1, 0), 0);
            check.dueExact(b, 1, -3, 2);
        }
    }

    // ---- promises 4 and 5

    private static void row() {
        bounds("a", 1, MILLION, a -> new RatioStreams().row(a, 0));
        bounds("b", 0, MILLION, step -> new RatioStreams().row(1, step));
        RatioStreams b = new RatioStreams();
        for (int i = 1; i <= 8; i++) {
            check.due("row", b.row(i, MILLION), i);
            check.due("ROWS", b.count(1), i);
        }
        check.due("a ninth", b.row(1, 1), Check.FULL);
        check.due("ROWS", b.count(1), 8);
        b.rule(0);
        for (int k = 1; k <= 8; k++) {
            check.due("a of ROW " + k, b.part(0, k), k);
            check.due("a + b of ROW " + k, b.part(0, k + 8), k + MILLION);
        }
    }

    private static void rule() {
        bounds("p0", -MILLION, MILLION, p0 -> {
            RatioStreams b = new RatioStreams();
            b.row(1, 0);
            long s = b.rule(p0);
            check.due("p0 as told, if at all", b.part(0, 0), s == 0 ? p0 : Check.UNKNOWN);
            check.due("the ROWS", b.count(1), s == 0 ? 0 : 1);
            return s;
        });
        check.due("no ROWS", new RatioStreams().rule(-MILLION), Check.STATE);
        RatioStreams b = new RatioStreams();
        b.row(MILLION, MILLION);
        b.rule(MILLION);
        check.due("the greatest PART", b.part(0, 59), 59 * 1000000);
    }

    /** "(none are told behind it)" and "FULL (the ROWS stay)" */
    private static void rowsBehindRule() {
        RatioStreams b = new RatioStreams();
        b.row(7, 0);
        check.due("rule", b.rule(0), 0);
        check.due("ROWS", b.count(1), 0);
        check.due("none are told", b.rule(0), Check.STATE);
        check.due("the first again", b.row(5, 1), 1);
        for (int i = 1; i < 40; i++) {
            b.ratio(i, 1);
        }
        check.due("rule", b.rule(0), Check.FULL);
        check.due("the ROWS stay", b.count(1), 1);
        check.due("and go on", b.row(9, 0), 2);
        b.drop(0);
        check.due("rule", b.rule(3), 0);
        check.dueParts(b, 0, 3, 5, 9, 6, 9, 7, 9);
    }

    // ---- promises 6 to 9

    private static void act() {
        RatioStreams b = new RatioStreams();
        for (int i = 0; i < 39; i++) {
            b.ratio(i + 1, 1);
        }
        bounds("how", 0, 3, how -> {
            long s = b.act(how, 0, 38);
            check.due("its number", s < 0 ? s : 39, s < 0 ? Check.OUTSIDE : 39);
            b.drop(39);
            return s;
        });
        check.due("the last STREAM with itself", b.act(0, 38, 38), 39);
        check.dueExact(b, 39, 78, 1);
        b.drop(0);
        check.due("the fortieth with itself", b.act(2, 39, 39), 0);
        check.dueExact(b, 0, 6084, 1);
        check.due("one too many", b.act(0, 39, 40), Check.UNKNOWN);
        check.due("one too few", b.act(0, -1, 39), Check.UNKNOWN);
    }

    /** "x / y (y a RATIO 0: STATE)": not x, not the others, not what is 0 but no RATIO. */
    private static void actOverZero() {
        RatioStreams b = new RatioStreams();
        b.ratio(0, 5);
        b.ratio(1, GREATEST);
        int some = rule(b, 1, 1);
        int zero = madeOf(b, some, 0, 1);
        check.due("over 0", b.act(3, 1, 0), Check.STATE);
        check.due("0 over 0", b.act(3, 0, 0), Check.STATE);
        check.due("a RULE over 0", b.act(3, some, 0), Check.STATE);
        check.due("0 over the least there is", b.act(3, 0, 1), 4);
        check.dueExact(b, 4, 0, 1);
        check.due("0 that is MADE is not known to be 0", b.act(3, 1, zero), 5);
        check.due("KNOWN", b.told(5, 1), 0);
        for (int how = 0; how < 3; how++) {
            check.due("0 is fine for act " + how, b.act(how, 1, 0), 6 + how);
        }
    }

    private static void turn() {
        RatioStreams b = new RatioStreams();
        b.ratio(0, -3);
        check.due("of 0", b.turn(0), Check.STATE);
        b.ratio(1, GREATEST);
        check.due("of the least above 0", b.turn(1), 2);
        check.dueExact(b, 2, GREATEST, 1);
        b.ratio(-1, GREATEST);
        check.due("of the greatest below 0", b.turn(3), 4);
        check.dueExact(b, 4, -GREATEST, 1);
        int some = rule(b, 1, 1);
        check.due("of a MADE 0", b.turn(madeOf(b, some, 0, 1)), 7);
        check.due("KIND", b.told(7, 0), 3);
        check.due("one too many", b.turn(8), Check.UNKNOWN);
        check.due("one too few", b.turn(-1), Check.UNKNOWN);
    }

    private static void factor() {
        RatioStreams b = new RatioStreams();
        bounds("i", 0, 7, i -> b.factor(i, 1));
        for (int i = 0; i < 8; i++) {
            int at = i;
            bounds("v of " + i, -MILLION, MILLION, v -> b.factor(at, v));
            check.due("what it was: the last one within", b.factor(i, i), MILLION);
        }
        b.ratio(1, 1);
        check.due("they stay behind mix()", b.mix(0, 0), 1);
        for (int i = 0; i < 8; i++) {
            check.due("factor " + i, b.factor(i, 0), i);
        }
    }

    /** "STATE: of an EXACT one what is below is 0 (and not FAR)" */
    private static void mix() {
        RatioStreams b = new RatioStreams();
        b.ratio(1, 2);
        b.ratio(-1, 2);
        check.due("all eight 0", b.mix(0, 1), Check.STATE);
        factors(b, 1, 0, 0, 0, 0, 1, 1, 0);
        check.due("x + y below is 0", b.mix(0, 1), Check.STATE);
        check.due("x + x below is 1", b.mix(0, 0), 2);
        check.dueExact(b, 2, 1, 4);
        check.due("y + y below is -1", b.mix(1, 1), 3);
        check.dueExact(b, 3, -1, 4);
        factors(b, 0, 0, 0, 0, 0, 0, 0, 1);
        check.due("0 above is a RATIO 0", b.mix(0, 1), 4);
        check.dueExact(b, 4, 0, 1);
        b.ratio(GREATEST, 1);
        b.ratio(1, 1);
        factors(b, 0, 0, 0, 1, 1, 0, 0, MILLION);
        check.due("10^15 + 10^6 below is FAR", b.mix(5, 6), Check.ISFAR);
        factors(b, 0, 0, 0, 1, 1, 0, 0, -MILLION);
        check.due("10^15 - 10^6 below", b.mix(5, 6), 7);
        check.dueExact(b, 7, 1, GREATEST - MILLION);
        factors(b, 0, 0, 0, 1, 0, 0, 0, 0);
        b.root(0, 1, 2, 1);
        check.due("0 below of one not EXACT", b.mix(8, 0), 9);
        check.due("KNOWN", b.told(9, 1), 0);
        check.due("open", b.told(9, 4), 1);
        check.due("one too many", b.mix(0, 10), Check.UNKNOWN);
        check.due("one too few", b.mix(-1, 0), Check.UNKNOWN);
    }

    // ---- promise 10

    private static void drop() {
        RatioStreams b = new RatioStreams();
        check.due("of an empty bench", b.drop(0), Check.UNKNOWN);
        for (int i = 0; i < 40; i++) {
            b.ratio(i, 1);
        }
        check.due("one too many", b.drop(40), Check.UNKNOWN);
        check.due("one too few", b.drop(-1), Check.UNKNOWN);
        check.due("the last", b.drop(39), 39);
        check.due("the first", b.drop(0), 38);
        check.due("again", b.drop(39), Check.UNKNOWN);
        check.due("again", b.drop(0), Check.UNKNOWN);
        for (int i = 1; i < 39; i++) {
            check.due("left", b.drop(i), 38 - i);
        }
        check.due("empty", b.count(0), 0);
        check.due("of an empty bench", b.drop(1), Check.UNKNOWN);
    }

    /** "(Those MADE of it stay as they are.)": also when its number is another's. */
    private static void dropWhatOthersAreMadeOf() {
        RatioStreams b = new RatioStreams();
        b.root(0, 1, 2, 1);
        b.root(0, 1, 3, 1);
        int sum = (int) b.act(0, 0, 1);
        int known = (int) b.told(sum, 1);
        long[] parts = new long[known];
        for (int k = 0; k < known; k++) {
            parts[k] = b.part(sum, k);
        }
        long taken = b.told(sum, 3);
        b.drop(0);
        b.drop(1);
        b.ratio(7, 1);
        b.ratio(8, 3);
        check.due("KNOWN", b.told(sum, 1), known);
        check.due("TAKEN", b.told(sum, 3), taken);
        check.dueParts(b, sum, parts);
        check.due("not KNOWN", b.part(sum, known), Check.ISOPEN);
    }

    /** Nothing of a dropped STREAM is told of the next one with its number. */
    private static void slotUsedAgain() {
        RatioStreams b = new RatioStreams();
        int some = rule(b, 1, 1);
        b.act(0, some, some);
        check.due("open", b.count(2), 1);
        b.drop(1);
        check.due("a dropped one is not counted", b.count(2), 0);
        check.due("a RATIO", b.ratio(7, 2), 1);
        long[] ratio = {0, 2, 1, 0, 0};
        long[] root = {1, 60, 0, 0, 0};
        for (int what = 0; what < 5; what++) {
            check.due("told " + what, b.told(1, what), ratio[what]);
        }
        b.drop(1);
        b.root(0, 1, 5, 1);
        for (int what = 0; what < 5; what++) {
            check.due("told " + what, b.told(1, what), root[what]);
        }
        check.due("round", b.round(1, 1), 1);
        b.drop(1);
        b.ratio(3, 1);
        check.dueExact(b, 1, 3, 1, Check.OUTSIDE);
        check.dueParts(b, 1, 3, Check.OUTSIDE);
        b.drop(1);
        madeOf(b, some, 5, 3);
        check.due("another KIND", b.exact(1, 0), Check.STATE);
        check.dueParts(b, 1, 1, 1, 2, Check.ISOPEN);
        b.drop(1);
        b.ratio(43, 30);
        b.ratio(43, 30);
        b.drop(1);
        b.ratio(10, 7);
        check.due("1 2 3, where 1 2 3 4 was, and 1 2 3 4", b.compare(1, 2), -1);
        check.due("1 2 3 4 and 1 2 3, where 1 2 3 4 was", b.compare(2, 1), 1);
    }

    // ---- promises 11 to 13

    private static void told() {
        RatioStreams b = new RatioStreams();
        b.ratio(5, 3);
        bounds("what", 0, 4, what -> b.told(0, what));
        int some = rule(b, 1, 2);
        b.root(0, 1, 2, 1);
        for (int s = 0; s < 3; s++) {
            check.due("TAKEN, unless MADE", b.told(s, 3), 0);
            check.due("open, unless MADE", b.told(s, 4), 0);
        }
        int none = madeOf(b, some, 1, 0);
        check.due("no PART", b.told(none, 1), 0);
        check.due("KIND", b.told(none, 0), 3);
        check.due("ENDS", b.told(none, 2), 0);
        check.due("open", b.told(none, 4), 1);
    }

    private static void part() {
        RatioStreams b = new RatioStreams();
        b.ratio(43, 30);
        int some = rule(b, 1, 2);
        int made = madeOf(b, some, 43, 30);
        int none = madeOf(b, some, 1, 0);
        bounds("k of one that ENDS", 0, 3, k -> b.part(0, k));
        check.due("its last", b.part(0, 3), 4);
        check.due("the first not KNOWN of a RULE", b.part(some, 60), Check.ISOPEN);
        check.due("the last KNOWN", b.part(some, 59), 2);
        check.dueParts(b, made, 1, 2, 3, 4, Check.ISOPEN);
        check.due("none KNOWN", b.part(none, 0), Check.ISOPEN);
        for (int s : new int[] {some, made, none}) {
            check.due("below 0", b.part(s, -1), Check.OUTSIDE);
            check.due("below 0", b.part(s, Integer.MIN_VALUE), Check.OUTSIDE);
            check.due("far behind", b.part(s, Integer.MAX_VALUE), Check.ISOPEN);
        }
    }

    private static void exact() {
        RatioStreams b = new RatioStreams();
        b.ratio(43, 30);
        b.root(2, 3, 5, 7);
        int some = rule(b, 1, 2);
        bounds("of a RATIO", 0, 1, what -> b.exact(0, what));
        bounds("of a ROOT", 0, 3, what -> b.exact(1, what));
        bounds("of a RULE", 0, 3, what -> b.exact(some, what));
        check.dueExact(b, 1, 2, 3, 5, 7);
        check.dueExact(b, some, Check.STATE, Check.STATE, Check.STATE, Check.STATE);
    }

    // ---- promise 14

    /** "TAIL i is TAIL k for some k above i, k up to 60" */
    private static void round() {
        RatioStreams b = new RatioStreams();
        b.root(31, 1, 991, 1);
        check.due("TAIL 60 is TAIL 0", b.round(0, 0), 0);
        check.due("it comes round in 60", b.round(0, 1), 60);
        b.root(0, 1, 991, 1);
        check.due("TAIL 61 is TAIL 1", b.round(1, 0), Check.ISOPEN);
        check.due("TAIL 61 is TAIL 1", b.round(1, 1), Check.ISOPEN);
        b.root(0, 1, 13, 19);
        check.due("TAIL 60 is TAIL 2", b.round(2, 0), 2);
        check.due("it comes round in 58", b.round(2, 1), 58);
        b.root(1, 1, 5, 2);
        check.due("the golden root comes round at once", b.round(3, 0), 0);
        check.due("in 1", b.round(3, 1), 1);
        bounds("what", 0, 1, what -> b.round(3, what));
        // Like PARTS alone are not enough: the root of 7 has 1 1 1 in what comes round.
        b.root(0, 1, 7, 1);
        check.due("from", b.round(4, 0), 1);
        check.due("in 4", b.round(4, 1), 4);
        check.due("of one that was told ahead of others", b.round(2, 0), 2);
        check.due("of one that was told ahead of others", b.round(0, 1), 60);
        check.due("of one that was told ahead of others", b.round(1, 1), Check.ISOPEN);
    }

    // ---- promise 15

    /** "ISOPEN: no PART is KNOWN, or just one, 0, and it does not END" */
    private static void sign() {
        RatioStreams b = new RatioStreams();
        int some = rule(b, 1, 2);
        int[][] ratios = {{0, 1}, {1, 1}, {-1, 1}, {1, MILLION}, {-1, MILLION}, {1, 2}};
        long[] ofRatio = {0, 1, -1, 1, -1, 1};
        long[] ofMade = {Check.ISOPEN, 1, -1, 1, -1, 1};
        for (int i = 0; i < ratios.length; i++) {
            int s = (int) b.ratio(ratios[i][0], ratios[i][1]);
            check.due("sign of " + ratios[i][0] + " by " + ratios[i][1], b.sign(s), ofRatio[i]);
            int made = madeOf(b, some, ratios[i][0], ratios[i][1]);
            check.due("KIND", b.told(made, 0), 3);
            check.due("sign of one MADE", b.sign(made), ofMade[i]);
        }
        check.due("no PART", b.sign(madeOf(b, some, 1, 0)), Check.ISOPEN);
        b.row(1, 0);
        check.due("0 and more, of a RULE", b.sign((int) b.rule(0)), 1);
        b.ratio(-1, GREATEST);
        check.due("-10^-15", b.sign((int) b.count(0) - 1), -1);
        b.drop(1);
        b.ratio(5, 1);
        b.drop(1);
        check.due("no PART, where 5 was", b.sign(madeOf(b, some, 1, 0)), Check.ISOPEN);
        check.due("its number", b.told(1, 0), 3);
    }

    // ---- promise 16

    /** "ISOPEN: up to where KNOWN PARTS of one of both, that does not END, are over all are alike" */
    private static void compareAtTheLastPart() {
        RatioStreams b = new RatioStreams();
        b.root(1, 1, 5, 2);
        // F(61) / F(60), F(62) / F(61) and F(63) / F(62): 1 1 .. 2 with 59, 60 and 61 PARTS.
        b.ratio(2504730781961L, 1548008755920L);
        b.ratio(4052739537881L, 2504730781961L);
        b.ratio(6557470319842L, 4052739537881L);
        check.due("2 against 1 at 58", b.compare(1, 0), 1);
        check.due("1 against 2 at 58", b.compare(0, 1), -1);
        check.due("2 against 1 at 59", b.compare(2, 0), -1);
        check.due("1 against 2 at 59", b.compare(0, 2), 1);
        check.due("60 alike, neither ENDS", b.compare(3, 0), Check.ISOPEN);
        check.due("60 alike, neither ENDS", b.compare(0, 3), Check.ISOPEN);
        check.due("2 against 1 at 59", b.compare(2, 3), -1);
        int some = rule(b, 1, 1, 1, 2, 1, 1, 1, 1, 1);
        b.ratio(53516625681602L, 33867623615821L);
        check.due("ENDS with 60", b.told(5, 2), 1);
        check.due("60 alike, one ENDS", b.compare(5, some), Check.ISOPEN);
        check.due("60 alike, one ENDS", b.compare(some, 5), Check.ISOPEN);
        check.due("both END", b.compare(5, 5), 0);
        b.ratio(5, 3);
        int made = madeOf(b, some, 5, 3);
        check.due("3 alike, one ENDS", b.compare(6, made), Check.ISOPEN);
        check.due("3 alike, one ENDS", b.compare(made, 6), Check.ISOPEN);
        b.ratio(1, 1);
        check.due("1 ENDS ahead of 1 1 2", b.compare(8, made), -1);
        check.due("1 1 2 and 1", b.compare(made, 8), 1);
        b.ratio(12, 7);
        check.due("1 1 2 and 1 1 2 2: not told", b.compare(made, 9), Check.ISOPEN);
        b.ratio(7, 4);
        check.due("1 1 2 and 1 1 3", b.compare(made, 10), -1);
    }

    /** "of two ROOTS with like a, b, n, d 0": and of others that come to the same PARTS it is not told. */
    private static void compareRoots() {
        RatioStreams b = new RatioStreams();
        b.root(1, 1, 2, 1);
        b.root(3, 3, 2, 3);
        check.due("alike in least terms", b.compare(0, 1), 0);
        int[][] others = {{2, 1, 2, 1}, {0, 1, 2, 1}, {1, -1, 2, 1}, {1, 2, 2, 1}, {1, 1, 3, 1}, {1, 1, 2, 2}};
        long[] due = {-1, 1, 1, -1, -1, 1};
        for (int i = 0; i < others.length; i++) {
            int s = (int) b.root(others[i][0], others[i][1], others[i][2], others[i][3]);
            check.due("root 0 against " + s, b.compare(0, s), due[i]);
            check.due(s + " against root 0", b.compare(s, 0), -due[i]);
        }
        int some = rule(b, 2, 2);
        check.due("a RULE with the same PARTS", b.compare(0, some), Check.ISOPEN);
        check.due("a RULE and itself", b.compare(some, some), Check.ISOPEN);
    }

    // ---- promise 17

    private static void near() {
        RatioStreams b = new RatioStreams();
        b.ratio(43, 30);
        int some = rule(b, 1, 2);
        int made = madeOf(b, some, 43, 30);
        bounds("k of one that ENDS", 0, 3, k -> b.near(0, k, 0));
        bounds("what", 0, 1, what -> b.near(0, 0, what));
        check.due("the last KNOWN", b.near(made, 3, 0), 43);
        check.due("its t", b.near(made, 3, 1), 30);
        check.due("not KNOWN", b.near(made, 4, 0), Check.ISOPEN);
        check.due("not KNOWN", b.near(made, Integer.MAX_VALUE, 1), Check.ISOPEN);
        check.due("below 0", b.near(made, -1, 0), Check.OUTSIDE);
    }

    // ---- promise 18

    private static void bestBounds() {
        RatioStreams b = new RatioStreams();
        b.ratio(43, 30);
        b.root(0, 1, 2, 1);
        for (int s = 0; s < 2; s++) {
            int of = s;
            bounds("most", 1, MILLION, most -> b.best(of, most, 1, 0));
            bounds("how", 0, 2, how -> b.best(of, 5, how, 0));
            bounds("what", 0, 1, what -> b.best(of, 5, 0, what));
        }
        b.ratio(1, MILLION);
        dueBest(b, 2, MILLION, 2, 1, MILLION);
        dueBest(b, 2, MILLION - 1, 2, 1, MILLION - 1);
        dueBest(b, 2, MILLION - 1, 1, 0, 1);
        b.ratio(1, MILLION + 1);
        dueBest(b, 3, MILLION, 1, 0, 1);
        dueBest(b, 3, MILLION, 2, 1, MILLION);
        dueBest(b, 3, MILLION, 0, 1, MILLION);
    }

    private static void dueBest(RatioStreams b, int s, int most, int how, long upper, long lower) {
        String call = "best(" + s + ", " + most + ", " + how + ", ";
        check.due(call + "0)", b.best(s, most, how, 0), upper);
        check.due(call + "1)", b.best(s, most, how, 1), lower);
    }

    /** "a lower number of 1 .. most": held against all ratios there are, with each most. */
    private static void bestAtItsMost() {
        for (int v = 1; v <= 13; v++) {
            for (int u = -20; u <= 20; u++) {
                for (int most = 1; most <= 14; most++) {
                    RatioStreams b = new RatioStreams();
                    b.ratio(u, v);
                    for (int how = 0; how < 3; how++) {
                        long[] due = searched(u, v, most, how);
                        dueBest(b, 0, most, how, due[0], due[1]);
                    }
                }
            }
        }
    }

    /** The lesser lower number is tried first, so only what is nearer takes its place. */
    private static long[] searched(long u, long v, long most, int how) {
        long[] found = null;
        for (long lower = 1; lower <= most; lower++) {
            long below = Math.floorDiv(u * lower, v);
            for (long upper = below; upper <= below + 1; upper++) {
                long off = u * lower - upper * v;
                boolean fits = how == 0 || (how == 1 ? off >= 0 : off <= 0);
                if (fits && (found == null || Math.abs(off) * found[1] < Math.abs(u * found[1] - found[0] * v) * lower)) {
                    found = new long[] {upper, lower};
                }
            }
        }
        return found;
    }

    /** "ISOPEN: it does not END, and no KNOWN PART's t k is above most; .. like those of that middle" */
    private static void bestIsOpen() {
        RatioStreams b = new RatioStreams();
        int some = rule(b, 1, 2);
        // 43 / 30 is 1 2 3 4 with t 1, 2, 7, 30.
        int made = madeOf(b, some, 43, 30);
        for (int how = 0; how < 3; how++) {
            check.due("most 30", b.best(made, 30, how, 0), Check.ISOPEN);
            check.due("most 31", b.best(made, 31, how, 1), Check.ISOPEN);
            check.due("most 29", b.best(made, 29, how, 0) == Check.ISOPEN ? 1 : 0, 0);
        }
        dueBest(b, made, 29, 1, 10, 7);
        dueBest(b, made, 29, 2, 33, 23);
        dueBest(b, made, 29, 0, 33, 23);
        check.due("no PART", b.best(madeOf(b, some, 1, 0), 1, 1, 0), Check.ISOPEN);
        // 7 / 4 is 1 1 3, the middle of 3 / 2 and 2 / 1.
        int middle = madeOf(b, some, 7, 4);
        dueBest(b, middle, 2, 1, 3, 2);
        dueBest(b, middle, 2, 2, 2, 1);
        check.due("like the middle", b.best(middle, 2, 0, 0), Check.ISOPEN);
        b.ratio(7, 4);
        dueBest(b, (int) b.count(0) - 1, 2, 0, 2, 1);
        // 12 / 7 is 1 1 2 2 and 1 1 2 differs; 1 1 3 2 goes on where the middle is over.
        dueBest(b, madeOf(b, some, 12, 7), 2, 0, 3, 2);
        dueBest(b, madeOf(b, some, 16, 9), 2, 0, 2, 1);
        b.root(0, 1, 2, 1);
        check.due("a ROOT knows enough for any most", b.best((int) b.count(0) - 1, MILLION, 0, 0), 941664);
    }

    /** "for how = 0 also a product or sum of (u v' + u' v) / (2 v v')": the sum is 4 u + 1 here. */
    private static void bestMiddleIsFar() {
        long[] wholes = {249999999999999L, 250000000000000L, -250000000000000L, -250000000000001L};
        boolean[] far = {false, true, false, true};
        for (int i = 0; i < wholes.length; i++) {
            long u = wholes[i];
            RatioStreams b = new RatioStreams();
            b.ratio(3 * u + 1, 3);
            dueBest(b, 0, 2, 1, u, 1);
            dueBest(b, 0, 2, 2, 2 * u + 1, 2);
            check.due("nearest to " + u + " and a third", b.best(0, 2, 0, 1), far[i] ? Check.ISFAR : 2);
        }
        RatioStreams b = new RatioStreams();
        b.ratio(GREATEST / 2, 1);
        b.ratio(GREATEST / 2 + 1, 1);
        dueBest(b, 0, 1, 0, GREATEST / 2, 1);
        dueBest(b, 1, 1, 1, GREATEST / 2 + 1, 1);
        check.due("u v' + u' v is 10^15 + 2", b.best(1, 1, 0, 0), Check.ISFAR);
    }

    /** "ISFAR: a NEAR number up to the first one with t k above most (or the last one)" */
    private static void bestNearIsFar() {
        RatioStreams b = new RatioStreams();
        // -7 and 1 by p, with 7 p 10^15 + 1: a product of the last one is FAR.
        b.ratio(-GREATEST, (GREATEST + 1) / 7);
        for (int how = 0; how < 3; how++) {
            check.due("the first above most is FAR", b.best(0, 1, how, 0), Check.ISFAR);
        }
        // 0 3 37535 28781 308555 ..: t is 3, 112606, 3240913289, then FAR.
        int some = rule(b, 0, 3, 37535, 28781, 308555);
        dueBest(b, some, 112605, 2, 1, 3);
        dueBest(b, some, 112606, 1, 37535, 112606);
        check.due("those behind it do not matter", b.best(some, MILLION, 1, 1), 112606);
        // 10^13 and the golden root: s k is FAR with t k 144, since 89 and 55 are the last ones.
        int golden = rule(b, 1, 1);
        b.ratio(10000000000000L, 1);
        int large = (int) b.act(0, 3, golden);
        check.due("t k 55 is above 54", b.best(large, 54, 1, 1) == Check.ISFAR ? 1 : 0, 0);
        check.due("t k 89 is above 88", b.best(large, 88, 1, 1) == Check.ISFAR ? 1 : 0, 0);
        check.due("t k 144 is FAR", b.best(large, 89, 1, 1), Check.ISFAR);
        check.due("and all behind", b.best(large, MILLION, 2, 0), Check.ISFAR);
    }

    /** "of two as near the one with the lesser lower number, then the lesser one" */
    private static void bestOfTwoAsNear() {
        RatioStreams b = new RatioStreams();
        b.ratio(3, 4);
        dueBest(b, 0, 2, 0, 1, 1);
        b.ratio(1, 4);
        dueBest(b, 1, 2, 0, 0, 1);
        b.ratio(-1, 4);
        dueBest(b, 2, 2, 0, 0, 1);
        b.ratio(1, 2);
        dueBest(b, 3, 1, 0, 0, 1);
        b.ratio(-1, 2);
        dueBest(b, 4, 1, 0, -1, 1);
    }

    // ---- promise 19

    private static void figureBounds() {
        RatioStreams b = new RatioStreams();
        b.ratio(1, 3);
        b.root(0, 1, 2, 1);
        for (int s = 0; s < 2; s++) {
            int of = s;
            bounds("base", 2, 36, base -> b.figure(of, base, 1));
            bounds("k", 0, 40, k -> b.figure(of, 2, k));
        }
        check.due("the least base, the last figure", b.figure(0, 2, 40), 1);
        check.due("the greatest base, the last figure", b.figure(0, 36, 40), 0);
        check.due("the greatest base, the first figure", b.figure(0, 36, 1), 12);
        b.ratio(-1, 36);
        check.due("the whole number", b.figure(2, 36, 0), -1);
        check.due("the greatest figure", b.figure(2, 36, 1), 35);
        check.due("behind it", b.figure(2, 36, 2), 0);
    }

    /** "ISFAR, if 36 v is": with each base. */
    private static void figureOfLargeLower() {
        RatioStreams b = new RatioStreams();
        b.ratio(27777777777776L, 27777777777777L);
        b.ratio(27777777777777L, 27777777777778L);
        check.due("36 v is 999999999999972", b.figure(0, 2, 1), 1);
        check.due("36 v is 999999999999972", b.figure(0, 36, 8), 35);
        check.due("36 v is 1000000000000008", b.figure(1, 2, 0), Check.ISFAR);
        check.due("36 v is 1000000000000008", b.figure(1, 36, 40), Check.ISFAR);
        b.ratio(GREATEST, 1);
        check.due("the upper one may be as it will", b.figure(2, 36, 0), GREATEST);
    }

    /** A RATIO that ENDS is told to the last figure; one of 61 PARTS just by its SPAN. */
    private static void figureOfSixtyParts() {
        RatioStreams b = new RatioStreams();
        b.ratio(4052739537881L, 2504730781961L);
        b.ratio(6557470319842L, 4052739537881L);
        check.due("ENDS", b.figure(0, 10, 40) == Check.ISOPEN ? 1 : 0, 0);
        check.due("does not END", b.figure(1, 10, 40), Check.ISOPEN);
        // Both are 1.618033988749894848204586..
        long[] due = {1, 6, 1, 8, 0, 3, 3, 9, 8, 8, 7, 4, 9, 8, 9, 4, 8, 4, 8, 2, 0, 4};
        for (int k = 0; k < due.length; k++) {
            check.due("figure " + k, b.figure(0, 10, k), due[k]);
            check.due("figure " + k, b.figure(1, 10, k), due[k]);
        }
    }

    /** "the same for all numbers strictly within it": its ends themselves do not count. */
    private static void figureWithinTheSpan() {
        RatioStreams b = new RatioStreams();
        int some = rule(b, 1, 2);
        int half = madeOf(b, some, 1, 2);
        // 0 2: strictly between 1 / 3 and 1 / 2.
        check.dueParts(b, half, 0, 2, Check.ISOPEN);
        check.due("1 / 2 is no part of it", b.figure(half, 2, 1), 0);
        check.due("nor is 1 / 3", b.figure(half, 3, 1), 1);
        check.due("0.3.. and 0.4..", b.figure(half, 10, 1), Check.ISOPEN);
        check.due("2 and 3 of 6", b.figure(half, 6, 1), 2);
        check.due("12 .. 17 of 36", b.figure(half, 36, 1), Check.ISOPEN);
        check.due("0.10 and 0.11 to the base 3", b.figure(half, 3, 2), Check.ISOPEN);
        int zero = madeOf(b, some, 0, 1);
        // 0 alone: strictly between 0 and 1.
        check.due("the whole number", b.figure(zero, 10, 0), 0);
        check.due("no figure", b.figure(zero, 2, 1), Check.ISOPEN);
        int below = madeOf(b, some, -5, 1);
        check.due("-5 to -4, both no part of it", b.figure(below, 10, 0), -5);
        check.due("no SPAN", b.figure(madeOf(b, some, 1, 0), 10, 0), Check.ISOPEN);
    }

    // ---- promise 20

    private static void roll() {
        RatioStreams b = new RatioStreams();
        check.due("empty", b.roll(Check.NONE, 0), 0);
        check.due("empty", b.roll(0, 0), Check.OUTSIDE);
        int some = rule(b, 1, 2);
        madeOf(b, some, 5, 3);
        int steps = (int) b.roll(Check.NONE, 0);
        for (int what = 0; what < 10; what++) {
            check.due("below NONE", b.roll(-2, what), Check.OUTSIDE);
            check.due("the first", b.roll(0, what) == Check.OUTSIDE ? 1 : 0, 0);
            check.due("the last", b.roll(steps - 1, what) == Check.OUTSIDE ? 1 : 0, 0);
            check.due("behind it", b.roll(steps, what), Check.OUTSIDE);
        }
        bounds("what", 0, 9, what -> b.roll(0, what));
        bounds("what", 0, 9, what -> b.roll(steps - 1, what));
    }

    /** 60 of x, 60 of y, OUT, and 59 GIVEN: f is x. */
    private static void longestRoll() {
        RatioStreams b = new RatioStreams();
        int some = rule(b, 2, 2);
        b.ratio(4052739537881L, 2504730781961L);
        factors(b, 0, 1, 0, 0, 0, 0, 0, 1);
        int made = (int) b.mix(some, 1);
        check.due("TAKEN", b.told(made, 3), 120);
        check.due("KNOWN", b.told(made, 1), 59);
        check.due("steps", b.roll(Check.NONE, 0), 180);
        int[] seen = new int[5];
        for (int i = 0; i < 180; i++) {
            seen[(int) b.roll(i, 0)]++;
        }
        long[] due = {60, 60, 0, 1, 59};
        for (int i = 0; i < 5; i++) {
            check.due("steps of " + i, seen[i], due[i]);
        }
    }

    /** "(of one that was ISFAR, or EXACT, nothing: it stays)", nor does drop() change it. */
    private static void rollStays() {
        RatioStreams b = new RatioStreams();
        int some = rule(b, 4, 1);
        b.act(0, some, some);
        long steps = b.roll(Check.NONE, 0);
        b.ratio(GREATEST, 1);
        check.due("EXACT", b.act(1, 2, 2), 3);
        check.due("turn, EXACT", b.turn(2), 4);
        check.due("ISFAR", b.act(0, 2, 2), Check.ISFAR);
        factors(b, 0, 0, 0, 1, 0, 0, 0, 1);
        check.due("mix, EXACT", b.mix(2, 2), 5);
        b.drop(1);
        b.drop(some);
        check.due("it stays", b.roll(Check.NONE, 0), steps);
        check.due("its first", b.roll(0, 1), 4);
        b.row(9, 0);
        check.due("rule", b.rule(8), 0);
        check.due("it stays", b.roll(0, 1), 4);
        b.turn(0);
        check.due("of the latest one", b.roll(0, 1), 8);
    }

    // ---- promise 21

    private static void count() {
        RatioStreams b = new RatioStreams();
        bounds("what", 0, 2, b::count);
        int some = rule(b, 1, 2);
        for (int i = 1; i < 40; i++) {
            madeOf(b, some, i, 7);
            check.due("STREAMS", b.count(0), i + 1);
            check.due("open ones", b.count(2), i);
        }
        madeOf(b, some, 1, 1);
        check.due("STREAMS at their most", b.count(0), 40);
        check.due("open ones", b.count(2), 39);
        b.drop(5);
        check.due("open ones", b.count(2), 38);
        b.drop(some);
        check.due("open ones", b.count(2), 38);
        check.due("STREAMS", b.count(0), 38);
        b.mix(1, 1);
        check.due("KIND of 0", b.told(0, 0), 3);
        check.due("open ones, 0 is one", b.count(2), 39);
    }
}
