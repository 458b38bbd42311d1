import java.util.function.ToLongFunction;

/** The boundaries of the document's Terms: a test for each sentence that names one. */
public final class TermsTest {
    private static final Check check = new Check("TermsTest");
    private static final long GREATEST = 1000000000000000L;

    public static void main(String[] args) {
        fortyStreamsAtMost();
        leastFreeNumberFirst();
        sixtyPartsOfRatio();
        sixtyPartsOfRootAndRule();
        sixtyPartsOfMade();
        lastPartAboveOne();
        partsBehindTheFirstAboveZero();
        greatestWholeNumberNotAbove();
        rootIsFarByD();
        rootIsFarByA();
        rootIsFarByB();
        rootIsFarInLeastTerms();
        ruleGoesRoundItsRows();
        whatIsExact();
        farAdd();
        farTakeAway();
        farTimes();
        farOver();
        farOverRoot();
        farProductOfRootsAlone();
        farTurn();
        farMix();
        farPastTheLong();
        eightNumbersOfActs();
        nothingGivenAheadOfOneFromEach();
        takenInTurn();
        openForWantOfParts();
        openByTakingFromX();
        openByTakingFromY();
        openPastTheLong();
        openByGiving();
        openByCorners();
        cornersZeroOrOfTwoSigns();
        cornersBelowZero();
        dividedByCommonDivisor();
        outLeavesOneSide();
        nearIsFarByItsUpper();
        nearIsFarByItsLower();
        nearIsFarBelowZero();
        nearIsFarPastTheLong();
        heldAgainstEnd();
        spanByUpper();
        spanByLower();
        spanBelowZero();
        spanOfPartZero();
        check.end();
    }

    // ---- benches

    private static int ratio(RatioStreams b, long u, long v) {
        return (int) b.ratio(u, v);
    }

    private static int rule(RatioStreams b, int p0, int... rows) {
        for (int a : rows) {
            b.row(a, 0);
        }
        return (int) b.rule(p0);
    }

    /** (a + b R) / d, larger than root() lets it be. */
    private static int wide(RatioStreams b, long upper, long often, int n, long lower) {
        int s = (int) b.root(0, 1, n, 1);
        s = (int) b.act(2, s, ratio(b, often, 1));
        s = (int) b.act(0, s, ratio(b, upper, 1));
        s = (int) b.act(3, s, ratio(b, lower, 1));
        check.dueExact(b, s, upper, often, n, lower);
        return s;
    }

    private static void factors(RatioStreams b, int... eight) {
        for (int i = 0; i < 8; i++) {
            b.factor(i, eight[i]);
        }
    }

    private static long[] fibonacci() {
        long[] f = new long[74];
        f[1] = 1;
        for (int i = 2; i < f.length; i++) {
            f[i] = f[i - 1] + f[i - 2];
        }
        return f;
    }

    // ---- 1 PARTS

    /** "a STREAM (40 at most)": by each call that makes one. */
    private static void fortyStreamsAtMost() {
        makes("ratio", b -> b.ratio(5, 7));
        makes("root", b -> b.root(0, 1, 7, 1));
        makes("root that is a RATIO", b -> b.root(0, 1, 9, 1));
        makes("rule", b -> {
            b.row(1, 1);
            return b.rule(4);
        });
        makes("act, EXACT", b -> b.act(0, 0, 1));
        makes("act, MADE", b -> b.act(0, 1, 2));
        makes("turn, EXACT", b -> b.turn(1));
        makes("turn, MADE", b -> b.turn(3));
        makes("mix, EXACT", b -> b.mix(0, 0));
        makes("mix, MADE", b -> b.mix(1, 2));
    }

    private static void makes(String name, ToLongFunction<RatioStreams> call) {
        RatioStreams b = new RatioStreams();
        b.ratio(2, 1);
        b.root(0, 1, 2, 1);
        b.root(0, 1, 3, 1);
        rule(b, 1, 4);
        factors(b, 1, 0, 0, 0, 0, 0, 0, 1);
        check.due(name + ", next", call.applyAsLong(b), 4);
        for (int i = 5; i < 39; i++) {
            b.ratio(i, 1);
        }
        check.due("count", b.count(0), 39);
        check.due(name + ", the fortieth", call.applyAsLong(b), 39);
        check.due(name + ", one more", call.applyAsLong(b), Check.FULL);
        check.due("count", b.count(0), 40);
        b.drop(17);
        check.due(name + ", the free one", call.applyAsLong(b), 17);
        check.due(name + ", one more", call.applyAsLong(b), Check.FULL);
    }

    /** "drop() lets a number free, the least free one is given first." */
    private static void leastFreeNumberFirst() {
        RatioStreams b = new RatioStreams();
        for (int i = 0; i < 40; i++) {
            check.due("numbers as they come", b.ratio(i, 1), i);
        }
        int[] dropped = {39, 5, 0, 20, 4};
        for (int i = 0; i < dropped.length; i++) {
            check.due("drop", b.drop(dropped[i]), 39 - i);
        }
        int[] due = {0, 4, 5, 20, 39};
        for (int i = 0; i < due.length; i++) {
            check.due("the least free one", b.ratio(100 + i, 1), due[i]);
            check.due("it is the new one", b.part(due[i], 0), 100 + i);
        }
        check.due("then it is full", b.ratio(1, 1), Check.FULL);
        for (int i = 0; i < 40; i++) {
            b.drop(i);
        }
        check.due("empty", b.count(0), 0);
        check.due("from 0 again", b.ratio(1, 1), 0);
    }

    /** "60 PARTS at most are KNOWN of each .. a RATIO, too; it ENDS, if its last PART is KNOWN." */
    private static void sixtyPartsOfRatio() {
        long[] f = fibonacci();
        // F(n + 1) / F(n) is n - 2 times 1, then 2: n - 1 PARTS.
        for (int n = 58; n <= 72; n++) {
            RatioStreams b = new RatioStreams();
            b.ratio(f[n + 1], f[n]);
            int parts = n - 1;
            String name = "of " + parts + " PARTS: ";
            check.due(name + "KNOWN", b.told(0, 1), Math.min(60, parts));
            check.due(name + "ENDS", b.told(0, 2), parts <= 60 ? 1 : 0);
            check.due(name + "the last", b.part(0, Math.min(60, parts) - 1), parts <= 60 ? 2 : 1);
            check.due(name + "behind it", b.part(0, Math.min(60, parts)), parts <= 60 ? Check.OUTSIDE : Check.ISOPEN);
            check.due(name + "NEAR behind it", b.near(0, Math.min(60, parts), 0),
                parts <= 60 ? Check.OUTSIDE : Check.ISOPEN);
            check.due(name + "with itself", b.compare(0, 0), parts <= 60 ? 0 : Check.ISOPEN);
            check.due(name + "open", b.told(0, 4), 0);
            check.due(name + "exact", b.exact(0, 0), f[n + 1]);
        }
    }

    private static void sixtyPartsOfRootAndRule() {
        RatioStreams b = new RatioStreams();
        b.root(0, 1, 3, 1);
        rule(b, 9, 7);
        for (int s = 0; s < 2; s++) {
            check.due("KNOWN", b.told(s, 1), 60);
            check.due("ENDS", b.told(s, 2), 0);
            check.due("the last", b.part(s, 59), s == 0 ? 1 : 7);
            check.due("behind it", b.part(s, 60), Check.ISOPEN);
            check.due("open", b.told(s, 4), 0);
        }
    }

    /** f is x or 3 x: 59 or 60 PARTS of one MADE. */
    private static void sixtyPartsOfMade() {
        RatioStreams b = new RatioStreams();
        rule(b, 4, 6);
        b.ratio(0, 1);
        b.act(0, 0, 1);
        // Each PART is GIVEN behind the TAKING of the next: the sixtieth is never sure.
        check.due("KNOWN", b.told(2, 1), 59);
        check.due("TAKEN", b.told(2, 3), 61);
        check.due("open", b.told(2, 4), 1);
        check.due("count", b.count(2), 1);
        check.dueParts(b, 2, 4, 6, 6);
        check.due("the last", b.part(2, 58), 6);
        check.due("not KNOWN", b.part(2, 59), Check.ISOPEN);
        rule(b, 1, 1001);
        b.ratio(1, 3);
        b.act(2, 3, 4);
        check.due("KNOWN", b.told(5, 1), 60);
        check.due("ENDS", b.told(5, 2), 0);
        check.due("open", b.told(5, 4), 0);
        check.due("count", b.count(2), 1);
        check.due("not KNOWN", b.part(5, 60), Check.ISOPEN);
        int last = (int) b.roll(Check.NONE, 0) - 1;
        check.due("it is over with the sixtieth", b.roll(last, 0), 4);
        check.due("the sixtieth", b.roll(last, 1), b.part(5, 59));
        check.due("steps", b.roll(Check.NONE, 0), b.told(5, 3) + 1 + 60);
    }

    /** "a last PART, but p0, is above 1", and the PARTS tell the RATIO. */
    private static void lastPartAboveOne() {
        for (int v = 1; v <= 30; v++) {
            RatioStreams b = new RatioStreams();
            for (int u = -30; u <= 30; u++) {
                b.ratio(u, v);
                int last = (int) b.told(0, 1) - 1;
                check.due("above 1", last == 0 || b.part(0, last) > 1 ? 1 : 0, 1);
                check.due("told by its PARTS", b.near(0, last, 0) * v, b.near(0, last, 1) * u);
                b.drop(0);
            }
        }
        RatioStreams b = new RatioStreams();
        b.ratio(1, 1);
        check.dueParts(b, 0, 1, Check.OUTSIDE);
    }

    /** "p0 any number, the others above 0": of each KIND. */
    private static void partsBehindTheFirstAboveZero() {
        RatioStreams b = new RatioStreams();
        b.ratio(-GREATEST, 4052739537881L);
        b.root(-7, -3, 19, 5);
        rule(b, -1000000, 1);
        for (int how = 0; how < 4; how++) {
            b.act(how, 1, 2);
            b.act(how, 2, 0);
        }
        for (int s = 0; s < b.count(0); s++) {
            check.due("p0 of " + s, b.part(s, 0) < 0 ? -1 : 1, b.sign(s));
            for (int k = 1; k < 20 && k < b.told(s, 1); k++) {
                check.due("PART " + k + " of " + s, b.part(s, k) > 0 ? 1 : 0, 1);
            }
        }
    }

    /** "again and again the greatest whole number not above it": below 0, too. */
    private static void greatestWholeNumberNotAbove() {
        RatioStreams b = new RatioStreams();
        b.ratio(-1, 3);
        check.dueParts(b, 0, -1, 1, 2, Check.OUTSIDE);
        b.ratio(-1, GREATEST);
        check.dueParts(b, 1, -1, 1, GREATEST - 1, Check.OUTSIDE);
        b.ratio(-GREATEST, GREATEST - 1);
        check.dueParts(b, 2, -2, 1, GREATEST - 2, Check.OUTSIDE);
        b.root(0, -1, 2, 1000);
        // -0.001414.. is -1 and 1 by 1.001416..
        check.dueParts(b, 3, -1, 1, 706);
        b.root(-3, 1, 8, 1);
        // -0.17157.. is -1 and 1 by 1.2071..
        check.dueParts(b, 4, -1, 1, 4, 1, 4, 1);
    }

    /** "it is FAR, if d is above 10000" */
    private static void rootIsFarByD() {
        RatioStreams b = new RatioStreams();
        b.root(1, 1, 2, 1000);
        check.due("d 10000", b.act(3, 0, ratio(b, 10, 1)), 2);
        check.dueExact(b, 2, 1, 1, 2, 10000);
        b.root(1, 1, 2, 137);
        check.due("d 10001", b.act(3, 3, ratio(b, 73, 1)), Check.ISFAR);
        check.due("d -10000", b.act(3, 0, ratio(b, -10, 1)), 6);
        check.dueExact(b, 6, -1, -1, 2, 10000);
        check.due("d -10001", b.act(3, 3, ratio(b, -73, 1)), Check.ISFAR);
    }

    /** "a above 10^9 in size" */
    private static void rootIsFarByA() {
        RatioStreams b = new RatioStreams();
        b.root(0, 1, 2, 1);
        check.due("a 10^9", b.act(0, 0, ratio(b, 1000000000, 1)), 2);
        check.dueExact(b, 2, 1000000000, 1, 2, 1);
        check.dueParts(b, 2, 1000000001, 2, 2, 2);
        check.due("a above it", b.act(0, 0, ratio(b, 1000000001, 1)), Check.ISFAR);
        check.due("a -10^9", b.act(1, 0, 1), 4);
        check.dueExact(b, 4, -1000000000, 1, 2, 1);
        check.dueParts(b, 4, -999999999, 2, 2, 2);
        check.due("a below it", b.act(1, 0, 3), Check.ISFAR);
    }

    /** "or b b n above 10^7" */
    private static void rootIsFarByB() {
        RatioStreams b = new RatioStreams();
        b.root(0, 1, 10, 1);
        check.due("1000 1000 10", b.act(2, 0, ratio(b, 1000, 1)), 2);
        check.dueExact(b, 2, 0, 1000, 10, 1);
        check.dueParts(b, 2, 3162, 3, 1, 1);
        check.due("1000 1000 10, b below 0", b.act(2, 0, ratio(b, -1000, 1)), 4);
        check.dueExact(b, 4, 0, -1000, 10, 1);
        // 106 106 890 is 10000040, the least one above 10^7 that there is.
        b.root(0, 1, 890, 1);
        check.due("106 106 890", b.act(2, 5, ratio(b, 106, 1)), Check.ISFAR);
        check.due("106 106 890, b below 0", b.act(2, 5, ratio(b, -106, 1)), Check.ISFAR);
        check.due("105 105 890", b.act(2, 5, ratio(b, 105, 1)), 9);
    }

    /** ".. what comes in least terms is FAR": not what is above it just ahead of that. */
    private static void rootIsFarInLeastTerms() {
        RatioStreams b = new RatioStreams();
        b.root(1, 1, 2, 1000);
        check.due("10 by 11000", b.act(2, 0, ratio(b, 10, 11)), 2);
        check.dueExact(b, 2, 1, 1, 2, 1100);
        b.root(0, 1, 2, 2);
        check.due("2 10^9 by 4", b.act(0, 3, ratio(b, 1000000000, 2)), 5);
        check.dueExact(b, 5, 1000000000, 1, 2, 2);
        b.root(0, 1, 10, 2);
        check.due("2000 by 6", b.act(2, 6, ratio(b, 2000, 3)), 8);
        check.dueExact(b, 8, 0, 1000, 10, 3);
    }

    /** "p k = a + j b of ROW (k - 1) modulo m" for m of 1 .. 8. */
    private static void ruleGoesRoundItsRows() {
        for (int m = 1; m <= 8; m++) {
            RatioStreams b = new RatioStreams();
            for (int i = 0; i < m; i++) {
                b.row(1000000 - 100 * i, 1000000 - i);
            }
            b.rule(-m);
            check.due("p0", b.part(0, 0), -m);
            for (int k = 1; k < 60; k++) {
                long i = (k - 1) % m;
                long j = (k - 1) / m;
                check.due("PART " + k + " of " + m + " ROWS", b.part(0, k), 1000000 - 100 * i + j * (1000000 - i));
            }
        }
    }

    // ---- 2 EXACT ACTS

    /** "if both are RATIOS or ROOTS, and not two ROOTS of unlike n" */
    private static void whatIsExact() {
        RatioStreams b = new RatioStreams();
        b.ratio(3, 2);
        b.root(1, 1, 3, 2);
        b.root(0, 1, 12, 5);
        b.root(0, 1, 2, 1);
        rule(b, 1, 1);
        int made = (int) b.act(0, 4, 4);
        int[][] due = {
            {0, 1, 1, 1, 3, 3},
            {1, 1, 1, 3, 3, 3},
            {1, 1, 1, 3, 3, 3},
            {1, 3, 3, 1, 3, 3},
            {3, 3, 3, 3, 3, 3},
            {3, 3, 3, 3, 3, 3}};
        for (int how = 0; how < 4; how++) {
            for (int x = 0; x <= made; x++) {
                for (int y = 0; y <= made; y++) {
                    int s = (int) b.act(how, x, y);
                    // Of a ROOT and itself, less or over, no root is left; nor of one without a whole part, times.
                    boolean rootless = x == y && due[x][y] == 1 && (how == 1 || how == 3 || how == 2 && x != 1);
                    check.due("KIND of act " + how + " " + x + " " + y, b.told(s, 0), rootless ? 0 : due[x][y]);
                    b.drop(s);
                }
            }
        }
    }

    private static void dueAct(String name, int how, long u, long v, long u2, long v2, long... exact) {
        RatioStreams b = new RatioStreams();
        b.ratio(u, v);
        b.ratio(u2, v2);
        check.due(name, b.act(how, 0, 1), exact.length == 0 ? Check.ISFAR : 2);
        if (exact.length > 0) {
            check.dueExact(b, 2, exact);
        }
    }

    /** "add a d' + a' d, .., d d'": each product and each sum. */
    private static void farAdd() {
        dueAct("a d' is 10^15", 0, 200000000000000L, 1, -1, 5, GREATEST - 1, 5);
        dueAct("a d' alone is FAR", 0, 200000000000001L, 1, -7, 5);
        dueAct("a' d is 10^15", 0, -1, 5, 200000000000000L, 1, GREATEST - 1, 5);
        dueAct("a' d alone is FAR", 0, -7, 5, 200000000000001L, 1);
        dueAct("a d' is -10^15", 0, -200000000000000L, 1, 1, 5, 1 - GREATEST, 5);
        dueAct("a d' alone is FAR", 0, -200000000000001L, 1, 7, 5);
        dueAct("the sum is 10^15", 0, GREATEST - 1, 1, 1, 1, GREATEST, 1);
        dueAct("the sum alone is FAR", 0, GREATEST, 1, 1, 1);
        dueAct("the sum is -10^15", 0, 1 - GREATEST, 1, -1, 1, -GREATEST, 1);
        dueAct("the sum alone is FAR", 0, -GREATEST, 1, -1, 1);
        dueAct("d d' is 10^15", 0, 1, 10000000, 1, 100000000, 11, 100000000);
        dueAct("d d' alone is FAR", 0, 1, 100000000, 1, 100000000);
    }

    private static void farTakeAway() {
        dueAct("a d' is 10^15", 1, 200000000000000L, 1, 1, 5, GREATEST - 1, 5);
        dueAct("a d' alone is FAR", 1, 200000000000001L, 1, 7, 5);
        dueAct("a' d is 10^15", 1, 1, 5, 200000000000000L, 1, 1 - GREATEST, 5);
        dueAct("a' d alone is FAR", 1, 7, 5, 200000000000001L, 1);
        dueAct("what is left is 10^15", 1, GREATEST - 1, 1, -1, 1, GREATEST, 1);
        dueAct("what is left alone is FAR", 1, GREATEST, 1, -1, 1);
        dueAct("what is left is -10^15", 1, 1 - GREATEST, 1, 1, 1, -GREATEST, 1);
        dueAct("what is left alone is FAR", 1, -GREATEST, 1, 1, 1);
        dueAct("10^15 less 10^15", 1, GREATEST, 1, GREATEST, 1, 0, 1);
        dueAct("d d' is 10^15", 1, 1, 10000000, 1, 100000000, 9, 100000000);
        dueAct("d d' alone is FAR", 1, 1, 100000000, 1, 100000000);
    }

    private static void farTimes() {
        dueAct("a a' is 10^15", 2, 100000000, 3, 10000000, 7, GREATEST, 21);
        dueAct("a a' is -10^15", 2, 100000000, 3, -10000000, 7, -GREATEST, 21);
        dueAct("a a' is FAR, in least terms it is not", 2, 100000000, 3, 30000000, 7);
        dueAct("a a' is FAR", 2, 100000001, 3, 10000000, 7);
        dueAct("d d' is 10^15", 2, 3, 100000000, 7, 10000000, 21, GREATEST);
        dueAct("d d' is FAR, in least terms it is not", 2, 3, 100000000, 7, 30000000);
        RatioStreams b = new RatioStreams();
        // 2401 999 by 1000 times (1000 k + 1000 R) by 2401 is 999 k + 999 R; a a' is 2398599000 k.
        int y = wide(b, 416910000, 1000, 2, 2401);
        int x = ratio(b, 2398599, 1000);
        int s = (int) b.act(2, x, y);
        check.dueExact(b, s, 416493090, 999, 2, 1);
        y = wide(b, 416911000, 1000, 2, 2401);
        check.due("a a' is FAR, in least terms it is not", b.act(2, x, y), Check.ISFAR);
        check.due("likewise a' a", b.act(2, y, x), Check.ISFAR);
    }

    private static void farOver() {
        dueAct("a d' is 10^15", 3, 100000000, 1, 3, 10000000, GREATEST, 3);
        dueAct("a d' is FAR, in least terms it is not", 3, 300000000, 1, 3, 10000000);
        dueAct("d a' is 10^15", 3, 3, 100000000, 10000000, 1, 3, GREATEST);
        dueAct("d a' is FAR, in least terms it is not", 3, 3, 100000000, 30000000, 1);
        dueAct("d a' is -10^15", 3, 3, 100000000, -10000000, 1, -3, GREATEST);
        dueAct("1 by 1", 3, GREATEST, 1, GREATEST, 1, 1, 1);
        dueAct("10^15 10^15", 3, GREATEST, 1, 1, GREATEST);
    }

    /** "(a a' - b b' n) d', .., (a' a' - b' b' n) d": of a ROOT over itself, which is 1. */
    private static void farOverRoot() {
        dueOverItself("a a' is 999999961946176", 31622776, 1, true);
        dueOverItself("a a' is 1000000025191729", 31622777, 1, false);
        dueOverItself("(a a' - 2) d' is 10^15 - 20", 10000000, 10, true);
        dueOverItself("(a a' - 2) d' is above it, a a' is not", 10000001, 10, false);
        dueOverItself("(a a' - 2) d' is above it, a below 0", -10000001, 10, false);
    }

    private static void dueOverItself(String name, long a, long d, boolean due) {
        RatioStreams b = new RatioStreams();
        int s = wide(b, a, 1, 2, d);
        long over = b.act(3, s, s);
        check.due(name, over < 0 ? Check.ISFAR : 1, due ? 1 : Check.ISFAR);
        if (due) {
            check.dueExact(b, (int) over, 1, 1);
        }
    }

    /** 2079 2109 k k is FAR with k 15102, but less 2 2079 2109 it is not, and no root is left. */
    private static void farProductOfRootsAlone() {
        for (int k = 15101; k <= 15102; k++) {
            RatioStreams b = new RatioStreams();
            int x = wide(b, 2109L * k, 2109, 2, 1);
            int y = wide(b, 2079L * k, 2079, 2, 1);
            int z = wide(b, 2079L * k, -2079, 2, 1);
            int times = (int) b.act(2, x, z);
            int over = (int) b.act(3, x, y);
            check.due("a a' alone is FAR, times", times < 0 ? 1 : 0, k == 15102 ? 1 : 0);
            check.due("a a' alone is FAR, over", over < 0 ? 1 : 0, k == 15102 ? 1 : 0);
            if (k == 15101) {
                check.dueExact(b, times, 2109L * 2079 * (15101L * 15101 - 2), 1);
                check.dueExact(b, over, 703, 693);
            } else {
                check.due("times", b.act(2, x, z), Check.ISFAR);
                check.due("over", b.act(3, x, y), Check.ISFAR);
            }
        }
    }

    private static void farTurn() {
        RatioStreams b = new RatioStreams();
        b.ratio(-GREATEST, 1);
        check.due("of -10^15", b.turn(0), 1);
        check.dueExact(b, 1, -1, GREATEST);
        check.due("and back", b.turn(1), 2);
        check.dueExact(b, 2, -GREATEST, 1);
        b.root(101, 1, 201, 1);
        check.due("101 101 - 201 is 10000", b.turn(3), 4);
        check.dueExact(b, 4, 101, -1, 201, 10000);
        b.root(101, 10, 2, 1);
        check.due("101 101 - 200 is 10001", b.turn(5), Check.ISFAR);
    }

    /** "a product or sum (from the left, as written)" */
    private static void farMix() {
        dueMix("10^15 and 0 - 1 + 1", GREATEST, 1000000, 0, -1, 1);
        dueMix("10^15 + 1 on the way", Check.ISFAR, 1000000, 0, 1, -1);
        dueMix("10^15 + 10^9 on the way", Check.ISFAR, 1000000, 1, -1, 1);
        dueMix("10^15 + 1 at the end", Check.ISFAR, 1000000, 0, 0, 1);
        dueMix("-10^15", -GREATEST, -1000000, 0, 1, -1);
        dueMix("-10^15 - 1 on the way", Check.ISFAR, -1000000, 0, -1, 1);
        RatioStreams b = new RatioStreams();
        b.ratio(1000000001, 1);
        b.ratio(0, 1);
        factors(b, 1000000, 0, 0, 5, 0, 0, 0, 1);
        check.due("a u is FAR ahead of u' 0", b.mix(0, 1), Check.ISFAR);
        check.due("a u is 0", b.mix(1, 0), 2);
        factors(b, 0, 0, 0, 1, 1000000, 0, 0, 5);
        check.due("e u is FAR ahead of u' 0", b.mix(0, 1), Check.ISFAR);
        check.due("e u is 0", b.mix(1, 0), 3);
        check.dueExact(b, 3, 1, 5);
    }

    /** Of x 10^9 and y 1 with a .. d above and 1 below, then the other way. */
    private static void dueMix(String name, long want, int... four) {
        RatioStreams b = new RatioStreams();
        b.ratio(1000000000, 1);
        b.ratio(1, 1);
        factors(b, four[0], four[1], four[2], four[3], 0, 0, 0, 1);
        check.due(name, b.mix(0, 1), want == Check.ISFAR ? want : 2);
        factors(b, 0, 0, 0, 1, four[0], four[1], four[2], four[3]);
        check.due(name + ", below", b.mix(0, 1), want == Check.ISFAR ? want : 3);
        if (want != Check.ISFAR) {
            check.dueExact(b, 2, want, 1);
            check.dueExact(b, 3, want < 0 ? -1 : 1, Math.abs(want));
        }
    }

    /** Products of 2^64 are FAR, though a long holds them as 0. */
    private static void farPastTheLong() {
        long half = 1L << 32;
        dueAct("a a'", 2, half, 1, half, 1);
        dueAct("a a' below 0", 2, half, 1, -half, 1);
        dueAct("d d'", 2, 1, half, 1, half);
        dueAct("a d'", 0, half, 1, 1, half);
        dueAct("a' d", 0, 1, half, half, 1);
        dueAct("a d'", 1, half, 1, 1, half);
        dueAct("a d'", 3, half, 1, 1, half);
        dueAct("d a'", 3, 1, half, half, 1);
        RatioStreams b = new RatioStreams();
        b.ratio(1L << 45, 1);
        b.ratio(1, 1);
        factors(b, 1 << 19, 0, 0, 1, 0, 0, 0, 1);
        check.due("a u", b.mix(0, 1), Check.ISFAR);
        factors(b, 0, 0, 0, 1, 1 << 19, 0, 0, 1);
        check.due("e u", b.mix(0, 1), Check.ISFAR);
        factors(b, 0, 0, 0, 1, 1 << 19, 0, 0, 0);
        check.due("e u, which is not 0", b.mix(0, 1), Check.ISFAR);
    }

    // ---- 2 those MADE

    private static void dueStep(RatioStreams b, int i, long... due) {
        for (int what = 0; what < due.length; what++) {
            check.due("roll(" + i + ", " + what + ")", b.roll(i, what), due[what]);
        }
    }

    /** "add 0 1 1 0 0 0 0 1; ..": what is seen of them behind the first TAKING, of 7 from x. */
    private static void eightNumbersOfActs() {
        RatioStreams b = new RatioStreams();
        rule(b, 7, 3);
        rule(b, 5, 4);
        b.act(0, 0, 1);
        dueStep(b, 0, 0, 7, 1, 7, 0, 1, 0, 1, 0, 0);
        b.act(1, 0, 1);
        dueStep(b, 0, 0, 7, -1, 7, 0, 1, 0, 1, 0, 0);
        b.act(2, 0, 1);
        dueStep(b, 0, 0, 7, 7, 0, 1, 0, 0, 1, 0, 0);
        b.act(3, 0, 1);
        dueStep(b, 0, 0, 7, 0, 7, 0, 1, 1, 0, 0, 0);
        b.turn(0);
        dueStep(b, 0, 0, 7, 0, 1, 0, 0, 0, 7, 0, 1);
        dueStep(b, 1, 1, 7, 1, 0, 0, 0, 7, 0, 1, 0);
        factors(b, 2, 3, 5, 7, 11, 13, 17, 19);
        b.mix(0, 1);
        dueStep(b, 0, 0, 7, 19, 28, 2, 3, 94, 110, 11, 13);
        // 95 and 28, 19, 10 and 3, 2; 470 and 110, 94, 55 and 13, 11.
        dueStep(b, 1, 1, 5, 123, 19, 13, 2, 580, 94, 68, 11);
    }

    /** "CORNERS, when at least one was TAKEN from each": of 5 / 3, sure from the first. */
    private static void nothingGivenAheadOfOneFromEach() {
        RatioStreams b = new RatioStreams();
        rule(b, 7, 3);
        factors(b, 0, 0, 0, 5, 0, 0, 0, 3);
        b.mix(0, 0);
        dueStep(b, 0, 0, 7);
        dueStep(b, 1, 1, 7);
        dueStep(b, 2, 4, 1);
        // x OUT is no TAKING from y.
        b.ratio(9, 1);
        b.mix(2, 0);
        dueStep(b, 0, 0, 9);
        dueStep(b, 1, 2, 0);
        dueStep(b, 2, 1, 7);
        dueStep(b, 3, 4, 1);
    }

    /** "from x, if x is not OUT, and y is, or no more PARTS were TAKEN from x than from y; else from y" */
    private static void takenInTurn() {
        RatioStreams b = new RatioStreams();
        rule(b, 7, 3);
        b.mix(0, 0);
        check.due("all eight 0: nothing is GIVEN", b.roll(Check.NONE, 0), 120);
        for (int i = 0; i < 120; i++) {
            check.due("x and y in turn", b.roll(i, 0), i % 2);
            check.due("the PART", b.roll(i, 1), i < 2 ? 7 : 3);
        }
        check.due("TAKEN", b.told(1, 3), 120);
        b.ratio(10, 7);
        b.mix(2, 0);
        // x has 1 2 3: x y x y x OUT, then y alone.
        long[] due = {0, 1, 0, 1, 0, 2, 1, 1, 1};
        for (int i = 0; i < due.length; i++) {
            check.due("step " + i, b.roll(i, 0), due[i]);
        }
        check.due("all PARTS of both", b.told(3, 3), 63);
        check.due("and OUT", b.roll(Check.NONE, 0), 64);
        b.mix(0, 2);
        long[] likewise = {0, 1, 0, 1, 0, 1, 3, 0, 0};
        for (int i = 0; i < likewise.length; i++) {
            check.due("step " + i, b.roll(i, 0), likewise[i]);
        }
        check.due("all PARTS of both", b.told(4, 3), 63);
    }

    /** "OPEN, if the one from which is to be TAKEN has no further KNOWN PART and does not END" */
    private static void openForWantOfParts() {
        RatioStreams b = new RatioStreams();
        rule(b, 7, 3);
        b.mix(0, 0);
        int none = 1;
        check.due("no PART is KNOWN", b.told(none, 1), 0);
        b.mix(none, 0);
        check.due("none to TAKE from x", b.told(2, 3), 0);
        check.due("THE ROLL is empty", b.roll(Check.NONE, 0), 0);
        check.due("open", b.told(2, 4), 1);
        b.mix(0, none);
        check.due("none to TAKE from y", b.told(3, 3), 1);
        factors(b, 0, 0, 0, 5, 0, 0, 0, 1);
        b.mix(0, 0);
        int one = 4;
        check.dueParts(b, one, 5, Check.ISOPEN);
        factors(b, 0, 0, 0, 0, 0, 0, 0, 0);
        b.mix(one, 0);
        check.due("one of x, one of y, though y has more", b.told(5, 3), 2);
        b.mix(0, one);
        check.due("two of x, one of y", b.told(6, 3), 3);
        long[] f = fibonacci();
        b.ratio(f[63], f[62]);
        b.mix(7, 0);
        check.due("a RATIO of 61 PARTS: 60 of x and of y", b.told(8, 3), 120);
        check.due("x is not OUT", b.roll(Check.NONE, 0), 120);
        b.ratio(f[62], f[61]);
        b.mix(9, 0);
        check.due("a RATIO of 60 PARTS: x is OUT", b.roll(Check.NONE, 0), 121);
    }

    private static RatioStreams taking(int from, long p, int number, int partner) {
        RatioStreams b = new RatioStreams();
        b.ratio(p, 1);
        rule(b, 0, 1);
        // A 0 of x turns a .. h about ahead of y's turn.
        int about = from == 0 ? 0 : 2;
        int other = number ^ (from == 0 ? 2 : 1);
        b.factor(number ^ about, 1000000);
        b.factor(other ^ about, partner);
        // Keeps the eight from having a common divisor.
        b.factor(number ^ about ^ 4, 1);
        b.mix(from == 0 ? 0 : 1, from == 0 ? 1 : 0);
        return b;
    }

    private static void dueTaking(int from, long p, int number, int partner, boolean due) {
        RatioStreams b = taking(from, p, number, partner);
        String name = "TAKING " + p + " for " + number + " with " + partner;
        check.due(name, b.roll(Check.NONE, 0) > from ? 1 : 0, due ? 1 : 0);
        if (due) {
            check.due(name, b.roll(from, 0), from);
            check.due(name, b.roll(from, 2 + number), 1000000 * p + partner);
        } else {
            check.due(name + ": TAKEN", b.told(2, 3), from);
            check.due(name + ": KNOWN", b.told(2, 1), 0);
            check.due(name + ": open", b.told(2, 4), 1);
        }
    }

    private static void dueTakings(int from, int number) {
        dueTaking(from, 1000000000, number, 0, true);
        dueTaking(from, 1000000000, number, -1, true);
        dueTaking(from, 1000000000, number, 1, false);
        dueTaking(from, 1000000001, number, -1000000, false);
        dueTaking(from, -1000000000, number, 0, true);
        dueTaking(from, -1000000000, number, 1, true);
        dueTaking(from, -1000000000, number, -1, false);
        dueTaking(from, -1000000001, number, 1000000, false);
    }

    /** "or a number that comes would be FAR: each product and each sum counts": a p + c, b p + d, e p + g, f p + h. */
    private static void openByTakingFromX() {
        for (int number : new int[] {0, 1, 4, 5}) {
            dueTakings(0, number);
        }
    }

    /** The same of a p + b, c p + d, e p + f, g p + h. */
    private static void openByTakingFromY() {
        for (int number : new int[] {0, 2, 4, 6}) {
            dueTakings(1, number);
        }
    }

    /** 2^19 times 2^45 is FAR, though a long holds it as 0. */
    private static void openPastTheLong() {
        for (int i = 0; i < 2; i++) {
            RatioStreams b = new RatioStreams();
            b.ratio(i == 0 ? 1L << 45 : -(1L << 45), 1);
            rule(b, 0, 1);
            factors(b, 0, 1 << 19, 0, 0, 0, 0, 0, 1);
            b.mix(0, 1);
            check.due("not TAKEN from x", b.told(2, 3), 0);
            factors(b, 0, 0, 1 << 19, 0, 0, 0, 0, 1);
            b.mix(1, 0);
            check.due("not TAKEN from y", b.told(3, 3), 1);
        }
    }

    /** GIVING: q is the greatest whole number not above u / 3, and 3 q may be FAR where u is not. */
    private static void openByGiving() {
        long[] us = {-GREATEST + 2, GREATEST, -GREATEST};
        long[] qs = {-333333333333333L, 333333333333333L, 0};
        for (int i = 0; i < us.length; i++) {
            RatioStreams b = new RatioStreams();
            b.ratio(us[i], 1);
            rule(b, 2, 2);
            factors(b, 0, 1, 0, 0, 0, 0, 0, 3);
            b.mix(0, 1);
            dueStep(b, 2, 1, 2, 0, 0, us[i], 0, 0, 0, 3, 0);
            if (qs[i] != 0) {
                dueStep(b, 3, 4, qs[i], 0, 0, 3, 0, 0, 0, us[i] - 3 * qs[i], 0);
            } else {
                check.due("3 q is FAR: it is not GIVEN", b.roll(Check.NONE, 0), 3);
                check.due("TAKEN", b.told(2, 3), 2);
                check.due("KNOWN", b.told(2, 1), 0);
                check.due("open", b.told(2, 4), 1);
            }
        }
    }

    /** A MADE STREAM that begins with 10^9 - 1. */
    private static RatioStreams justBelow(int... eight) {
        RatioStreams b = new RatioStreams();
        rule(b, 0, 1);
        b.ratio(999999999, 1);
        b.act(0, 1, 0);
        check.due("p0", b.part(2, 0), 999999999);
        b.ratio(0, 1);
        factors(b, eight);
        return b;
    }

    private static void dueCorners(String name, int x, int y, boolean due, int... eight) {
        RatioStreams b = justBelow(eight);
        int made = (int) b.mix(x, y);
        check.due(name + ", more than one of x and one of y", b.told(made, 3) > 2 ? 1 : 0, due ? 1 : 0);
        if (!due) {
            check.due(name + ", TAKEN", b.told(made, 3), 2);
            check.due(name + ", KNOWN", b.told(made, 1), 0);
            check.due(name + ", open", b.told(made, 4), 1);
        }
    }

    /** "(Sums that are FAR: OPEN.)": 10^6 (10^9 - 1) and 10^6 and w. */
    private static void openByCorners() {
        for (int w = -1; w <= 1; w++) {
            boolean due = w <= 0;
            dueCorners("c + d, x OUT, w " + w, 3, 2, due, 0, 0, 1000000, w, 0, 0, 0, 1);
            dueCorners("g + h, x OUT, w " + w, 3, 2, due, 0, 0, 1, 0, 0, 0, 1000000, w);
            dueCorners("b + d, y OUT, w " + w, 2, 3, due, 0, 1000000, 0, w, 0, 0, 0, 1);
            dueCorners("f + h, y OUT, w " + w, 2, 3, due, 0, 1, 0, 0, 0, 1000000, 0, w);
            dueCorners("a + c, w " + w, 2, 0, due, 0, 1000000, 0, w, 0, 0, 0, 1);
            dueCorners("a + b, w " + w, 0, 2, due, 0, 0, 1000000, w, 0, 0, 0, 1);
            dueCorners("-c - d, x OUT, w " + w, 3, 2, due, 0, 0, -1000000, -w, 0, 0, 0, 1);
            dueCorners("-b - d, y OUT, w " + w, 2, 3, due, 0, -1000000, 0, -w, 0, 0, 0, 1);
        }
    }

    /** "if the lower numbers of all CORNERS are not 0 and of one sign" */
    private static void cornersZeroOrOfTwoSigns() {
        RatioStreams b = new RatioStreams();
        rule(b, 1, 1);
        // 0 by x - 1: the CORNERS are 0 by 1 and 0 by 0.
        factors(b, 0, 0, 0, 0, 0, 1, 0, -1);
        b.mix(0, 0);
        check.due("not GIVEN behind 1 and 1", b.roll(2, 0), 0);
        // 0 by 2 x - 3: behind 1 and 1 it is 0 by 1 and 0 by -1, behind 1 1 it is 0 by -1 and 0 by 1.
        factors(b, 0, 0, 0, 0, 0, 2, 0, -3);
        b.mix(0, 0);
        dueStep(b, 1, 1, 1, 0, 0, 0, 0, -1, 0, 2, 0);
        check.due("not GIVEN behind 1 and 1", b.roll(2, 0), 0);
        // 0 by 2 x - 5 is 0 by -1 and 0 by -3: of one sign, below 0.
        factors(b, 0, 0, 0, 0, 0, 2, 0, -5);
        b.mix(0, 0);
        dueStep(b, 1, 1, 1, 0, 0, 0, 0, -3, 0, 2, 0);
        check.due("GIVEN", b.roll(2, 0), 4);
        check.due("it is 0", b.roll(2, 1), 0);
    }

    /** "the greatest whole number not above is the same, q, for all": below 0, too. */
    private static void cornersBelowZero() {
        RatioStreams b = new RatioStreams();
        rule(b, 4, 2);
        b.ratio(0, 1);
        b.act(1, 1, 0);
        // 0 - 4.41.. is -5 and 0.58..
        check.dueParts(b, 2, -5, 1, 1, 2, 2);
        factors(b, 0, 0, 0, 5, 0, 0, 0, -3);
        b.mix(0, 0);
        check.dueParts(b, 3, -2, 3, Check.ISOPEN);
        factors(b, 0, 0, 0, -6, 0, 0, 0, 3);
        b.mix(0, 0);
        check.dueParts(b, 4, -2, Check.ISOPEN);
    }

    /** "Behind each TAKING (and OUT) and GIVING all eight are divided by their greatest common divisor" */
    private static void dividedByCommonDivisor() {
        RatioStreams b = new RatioStreams();
        rule(b, 2, 2);
        b.ratio(0, 1);
        factors(b, 0, 6, 0, 0, 0, 0, 0, -10);
        b.mix(0, 0);
        dueStep(b, 0, 0, 2, 0, 6, 0, 3, 0, -5, 0, 0);
        dueStep(b, 1, 1, 2, 6, 0, 3, 0, -5, 0, 0, 0);
        // x 0: c and d, g and h alone are left by OUT.
        factors(b, 0, 0, 6, 0, 0, 1, 0, 10);
        b.mix(1, 0);
        dueStep(b, 0, 0, 0, 6, 0, 0, 0, 0, 10, 0, 1);
        dueStep(b, 1, 2, 0, 0, 0, 3, 0, 0, 0, 0, 5);
        factors(b, 0, 0, 0, 0, 0, 0, 0, 0);
        b.mix(1, 0);
        dueStep(b, 1, 2, 0, 0, 0, 0, 0, 0, 0, 0, 0);
        // 7 by 3: 2 GIVEN leaves 3 by 1, behind it 1 by 0, whatever was TAKEN.
        factors(b, 0, 0, 0, 7, 0, 0, 0, 3);
        b.mix(0, 0);
        dueStep(b, 2, 4, 2, 3, 0, 0, 0, 1, 0, 0, 0);
        dueStep(b, 3, 4, 3, 1, 0, 0, 0, 0, 0, 0, 0);
    }

    /** "x is OUT: c, d become a, b, and a, b become 0; ..": with eight that all differ. */
    private static void outLeavesOneSide() {
        RatioStreams b = new RatioStreams();
        b.ratio(7, 1);
        rule(b, 5, 4);
        factors(b, 2, 3, 5, 7, 11, 13, 17, 19);
        b.mix(0, 1);
        dueStep(b, 0, 0, 7, 19, 28, 2, 3, 94, 110, 11, 13);
        dueStep(b, 1, 2, 0, 0, 0, 19, 28, 0, 0, 94, 110);
        dueStep(b, 2, 1, 5, 0, 0, 123, 19, 0, 0, 580, 94);
        b.mix(1, 0);
        // 5 of x: 15, 22, 2, 3, 72, 84, 11, 13; 7 of y: 127, 15, 17, 2, 588, 72, 90, 11.
        dueStep(b, 0, 0, 5, 15, 22, 2, 3, 72, 84, 11, 13);
        dueStep(b, 1, 1, 7, 127, 15, 17, 2, 588, 72, 90, 11);
        dueStep(b, 2, 3, 0, 0, 127, 0, 17, 0, 588, 0, 90);
    }

    // ---- 3 NEAR numbers

    /** "They are FAR, if one of these products, sums, up to that k, is." */
    private static void nearIsFarByItsUpper() {
        RatioStreams b = new RatioStreams();
        rule(b, 54323, 11, 12, 1, 132, 961725);
        check.due("s 5 is 10^15", b.near(0, 5, 0), GREATEST);
        check.due("s 6 is FAR", b.near(0, 6, 0), Check.ISFAR);
        check.due("t 6, too", b.near(0, 6, 1), Check.ISFAR);
        check.due("all behind it", b.near(0, 59, 1), Check.ISFAR);
        rule(b, 3, 37535, 28781, 308555);
        check.due("s 3 is 10^15 + 1, the product is not FAR", b.near(1, 3, 0), Check.ISFAR);
        check.due("s 2", b.near(1, 2, 0), 3240913289L);
        check.due("t 2", b.near(1, 2, 1), 1080294836L);
        b.ratio(GREATEST, 1);
        check.due("s 0 is 10^15", b.near(2, 0, 0), GREATEST);
        check.due("t 0 is 1", b.near(2, 0, 1), 1);
    }

    private static void nearIsFarByItsLower() {
        RatioStreams b = new RatioStreams();
        rule(b, 0, 54323, 11, 12, 1, 132, 961725);
        check.due("t 6 is 10^15", b.near(0, 6, 1), GREATEST);
        check.due("t 7 is FAR", b.near(0, 7, 1), Check.ISFAR);
        check.due("s 7, too", b.near(0, 7, 0), Check.ISFAR);
        rule(b, 0, 3, 37535, 28781, 308555);
        check.due("t 4 is 10^15 + 1", b.near(1, 4, 1), Check.ISFAR);
        check.due("s 4, too", b.near(1, 4, 0), Check.ISFAR);
        check.due("t 3", b.near(1, 3, 1), 3240913289L);
        b.ratio(-1, GREATEST);
        check.due("t 2 of -1 1 10^15 - 1", b.near(2, 2, 1), GREATEST);
        check.due("s 2", b.near(2, 2, 0), -1);
        check.due("s 1", b.near(2, 1, 0), 0);
        check.due("t 1", b.near(2, 1, 1), 1);
    }

    private static void nearIsFarBelowZero() {
        RatioStreams b = new RatioStreams();
        rule(b, -54324, 1, 10, 12, 1, 132, 961725);
        check.due("s 6 is -10^15", b.near(0, 6, 0), -GREATEST);
        check.due("s 7 is FAR", b.near(0, 7, 0), Check.ISFAR);
        rule(b, -4, 1, 37534, 28781, 308555);
        check.due("s 4 is -10^15 - 1", b.near(1, 4, 0), Check.ISFAR);
        check.due("s 3", b.near(1, 3, 0), -3240913289L);
        // -7 p + 1 is -10^15, but the product is FAR.
        b.ratio(-GREATEST, (GREATEST + 1) / 7);
        check.due("s 0", b.near(2, 0, 0), -7);
        check.due("s 1", b.near(2, 1, 0), Check.ISFAR);
    }

    /** 2^19 times 2^45 and some more is FAR, though a long holds just the rest of it. */
    private static void nearIsFarPastTheLong() {
        RatioStreams b = new RatioStreams();
        rule(b, 116, 1, 756711, 397405, 524288);
        check.due("s 3", b.near(0, 3, 0), 1L << 45);
        check.due("s 4", b.near(0, 4, 0), Check.ISFAR);
        rule(b, 0, 116, 1, 756711, 397405, 524288);
        check.due("t 4", b.near(1, 4, 1), 1L << 45);
        check.due("t 5", b.near(1, 5, 1), Check.ISFAR);
    }

    /** "held .. as if one without end stood behind its last one", at even and at odd k. */
    private static void heldAgainstEnd() {
        RatioStreams b = new RatioStreams();
        b.ratio(1, 1);
        b.ratio(3, 2);
        b.ratio(4, 3);
        b.root(0, 1, 2, 1);
        check.due("1 and 1 2: without end at 1, which is odd", b.compare(0, 1), -1);
        check.due("1 2 and 1", b.compare(1, 0), 1);
        check.due("1 2 and 1 3", b.compare(1, 2), 1);
        check.due("1 3 and 1 2", b.compare(2, 1), -1);
        check.due("1 2 and 1 2 2 ..: without end at 2, which is even", b.compare(1, 3), 1);
        check.due("1 2 2 .. and 1 2", b.compare(3, 1), -1);
        check.due("1 and 1 2 2 ..", b.compare(0, 3), -1);
    }

    private static void dueSpan(String name, RatioStreams b, int s, int last, long figure) {
        check.due(name, b.figure(s, 10, last), figure);
        check.due(name + ", one more", b.figure(s, 10, last + 1), Check.ISOPEN);
    }

    /** "s k, t k, s k + s(k-1), t k + t(k-1) are all up to 10^13": here it is the sum of the upper ones. */
    private static void spanByUpper() {
        RatioStreams b = new RatioStreams();
        rule(b, 974, 3, 22, 455, 336639);
        dueSpan("s 4 + s 3 is 10^13: PART 4 tells 19", b, 0, 19, 5);
        rule(b, 2117, 29959, 157670);
        dueSpan("s 2 + s 1 is 10^13 + 1: PART 2 would tell 18", b, 1, 8, 7);
    }

    private static void spanByLower() {
        RatioStreams b = new RatioStreams();
        rule(b, 0, 974, 3, 22, 455, 336639);
        dueSpan("t 5 + t 4 is 10^13: PART 5 tells 25", b, 0, 25, 0);
        rule(b, 0, 2117, 29959, 157670);
        dueSpan("t 3 + t 2 is 10^13 + 1: PART 3 would tell 25", b, 1, 11, 4);
    }

    private static void spanBelowZero() {
        RatioStreams b = new RatioStreams();
        rule(b, -975, 1, 2, 22, 455, 336639);
        dueSpan("s 5 + s 4 is -10^13: PART 5 tells 19", b, 0, 19, 4);
        rule(b, -2118, 1, 29958, 157670);
        dueSpan("s 3 + s 2 is -10^13 - 1: PART 3 would tell 18", b, 1, 8, 2);
    }

    /** "(None, if that is not so of PART 0.)" */
    private static void spanOfPartZero() {
        long[] wholes = {9999999999999L, 10000000000000L, -10000000000000L, -10000000000001L};
        boolean[] due = {true, false, true, false};
        for (int i = 0; i < wholes.length; i++) {
            RatioStreams b = new RatioStreams();
            rule(b, 0, 1);
            b.ratio(wholes[i], 1);
            b.act(0, 1, 0);
            check.due("p0", b.part(2, 0), wholes[i]);
            check.due("SPAN of " + wholes[i], b.figure(2, 10, 0), due[i] ? wholes[i] : Check.ISOPEN);
        }
    }
}
