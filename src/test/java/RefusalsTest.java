import java.util.function.Consumer;
import java.util.function.ToLongFunction;

/**
 * "Calls answer, the first of these that fits: UNKNOWN, OUTSIDE, STATE, FULL, ISFAR, ISOPEN; then nothing changes":
 * each refusal of each call, those that fit at once, and that the bench goes on as if it had not been asked.
 */
public final class RefusalsTest {
    private static final Check check = new Check("RefusalsTest");
    private static final Twins twins = new Twins(check);
    private static final long GREATEST = 1000000000000000L;
    private static final int NO = 20;
    private static final int RATIO = 0, ROOT = 1, RULE = 2, MADE = 3, NO_PART = 4, ZERO = 5, LARGE = 6, SMALL = 7;
    private static final int FAR_TO_TURN = 8, NEARS_FAR = 9, LONG = 10;

    public static void main(String[] args) {
        ratio();
        root();
        row();
        rule();
        act();
        turn();
        factor();
        mix();
        drop();
        told();
        part();
        exact();
        round();
        sign();
        compare();
        near();
        best();
        figure();
        roll();
        count();
        emptyBench();
        tellingChangesNothing();
        check.end();
    }

    // ---- benches

    private static void streams(RatioStreams b) {
        b.ratio(43, 30);
        b.root(0, 1, 2, 1);
        b.row(1, 1);
        b.rule(0);
        b.act(0, ROOT, RULE);
        b.act(1, RULE, RULE);
        b.ratio(0, -7);
        b.ratio(GREATEST, 1);
        b.ratio(1, 40000000);
        b.root(101, 10, 2, 1);
        b.ratio(-GREATEST, (GREATEST + 1) / 7);
        b.root(0, 1, 991, 1);
        for (int i = 0; i < 8; i++) {
            b.factor(i, 3 * i - 10);
        }
    }

    private static void some(RatioStreams b) {
        streams(b);
        b.row(3, 4);
        b.row(5, 0);
    }

    private static void fill(RatioStreams b) {
        for (long i = b.count(0); i < 40; i++) {
            b.ratio(i, 1);
        }
    }

    private static void full(RatioStreams b) {
        some(b);
        fill(b);
    }

    private static void fullWithoutRows(RatioStreams b) {
        streams(b);
        fill(b);
    }

    private static void eightRows(RatioStreams b) {
        streams(b);
        for (int i = 1; i <= 8; i++) {
            b.row(i, i);
        }
    }

    private static Consumer<RatioStreams> with(Consumer<RatioStreams> first, int... eight) {
        return b -> {
            first.accept(b);
            for (int i = 0; i < 8; i++) {
                b.factor(i, eight[i]);
            }
        };
    }

    private static void some(String name, ToLongFunction<RatioStreams> asked, long want) {
        twins.due(name, RefusalsTest::some, asked, want);
    }

    private static void full(String name, ToLongFunction<RatioStreams> asked, long want) {
        twins.due(name, RefusalsTest::full, asked, want);
    }

    // ---- streams

    private static void ratio() {
        some("u", b -> b.ratio(GREATEST + 1, 1), Check.OUTSIDE);
        some("u", b -> b.ratio(-GREATEST - 1, 1), Check.OUTSIDE);
        some("v", b -> b.ratio(1, GREATEST + 1), Check.OUTSIDE);
        some("v", b -> b.ratio(1, -GREATEST - 1), Check.OUTSIDE);
        some("v 0", b -> b.ratio(1, 0), Check.OUTSIDE);
        some("0 by 0", b -> b.ratio(0, 0), Check.OUTSIDE);
        full("ratio", b -> b.ratio(1, 1), Check.FULL);
        full("OUTSIDE ahead of FULL", b -> b.ratio(GREATEST + 1, 1), Check.OUTSIDE);
        full("OUTSIDE ahead of FULL", b -> b.ratio(1, 0), Check.OUTSIDE);
    }

    private static void root() {
        some("a", b -> b.root(10001, 1, 2, 1), Check.OUTSIDE);
        some("b", b -> b.root(0, 101, 2, 1), Check.OUTSIDE);
        some("n", b -> b.root(0, 1, 1001, 1), Check.OUTSIDE);
        some("d", b -> b.root(0, 1, 2, 0), Check.OUTSIDE);
        some("n, though b is 0", b -> b.root(1, 0, -1, 1), Check.OUTSIDE);
        full("a ROOT", b -> b.root(0, 1, 2, 1), Check.FULL);
        full("a RATIO", b -> b.root(0, 1, 4, 1), Check.FULL);
        full("OUTSIDE ahead of FULL", b -> b.root(0, 1, 2, 0), Check.OUTSIDE);
        full("OUTSIDE ahead of FULL", b -> b.root(10001, 0, 0, 1), Check.OUTSIDE);
    }

    private static void row() {
        some("a", b -> b.row(0, 0), Check.OUTSIDE);
        some("a", b -> b.row(1000001, 0), Check.OUTSIDE);
        some("b", b -> b.row(1, -1), Check.OUTSIDE);
        some("b", b -> b.row(1, 1000001), Check.OUTSIDE);
        twins.due("row", RefusalsTest::eightRows, b -> b.row(1, 0), Check.FULL);
        twins.due("OUTSIDE ahead of FULL", RefusalsTest::eightRows, b -> b.row(0, 0), Check.OUTSIDE);
        twins.due("OUTSIDE ahead of FULL", RefusalsTest::eightRows, b -> b.row(1, -1), Check.OUTSIDE);
    }

    private static void rule() {
        some("p0", b -> b.rule(1000001), Check.OUTSIDE);
        some("p0", b -> b.rule(-1000001), Check.OUTSIDE);
        twins.due("no ROWS", RefusalsTest::streams, b -> b.rule(0), Check.STATE);
        twins.due("OUTSIDE ahead of STATE", RefusalsTest::streams, b -> b.rule(1000001), Check.OUTSIDE);
        full("the ROWS stay", b -> b.rule(0), Check.FULL);
        full("OUTSIDE ahead of FULL", b -> b.rule(-1000001), Check.OUTSIDE);
        twins.due("STATE ahead of FULL", RefusalsTest::fullWithoutRows, b -> b.rule(0), Check.STATE);
        twins.due("OUTSIDE ahead of both", RefusalsTest::fullWithoutRows, b -> b.rule(1000001), Check.OUTSIDE);
    }

    private static void act() {
        for (int none : new int[] {-1, NO, 39, 40, Integer.MIN_VALUE, Integer.MAX_VALUE}) {
            some("x", b -> b.act(0, none, RATIO), Check.UNKNOWN);
            some("y", b -> b.act(0, RATIO, none), Check.UNKNOWN);
        }
        some("UNKNOWN ahead of OUTSIDE", b -> b.act(4, NO, RATIO), Check.UNKNOWN);
        some("UNKNOWN ahead of OUTSIDE", b -> b.act(-1, RATIO, NO), Check.UNKNOWN);
        some("UNKNOWN ahead of STATE", b -> b.act(3, NO, ZERO), Check.UNKNOWN);
        some("how", b -> b.act(-1, RATIO, RATIO), Check.OUTSIDE);
        some("how", b -> b.act(4, RATIO, ZERO), Check.OUTSIDE);
        for (int x : new int[] {RATIO, ROOT, RULE, MADE, NO_PART, ZERO, LARGE}) {
            some("over 0", b -> b.act(3, x, ZERO), Check.STATE);
            full("STATE ahead of FULL", b -> b.act(3, x, ZERO), Check.STATE);
        }
        some("times", b -> b.act(2, LARGE, LARGE), Check.ISFAR);
        some("add", b -> b.act(0, SMALL, SMALL), Check.ISFAR);
        some("take away", b -> b.act(1, SMALL, SMALL), Check.ISFAR);
        some("over", b -> b.act(3, LARGE, SMALL), Check.ISFAR);
        some("a ROOT", b -> b.act(0, ROOT, LARGE), Check.ISFAR);
        full("EXACT", b -> b.act(0, RATIO, ROOT), Check.FULL);
        full("MADE", b -> b.act(0, RULE, ROOT), Check.FULL);
        full("UNKNOWN ahead of FULL", b -> b.act(0, RATIO, 40), Check.UNKNOWN);
        full("UNKNOWN ahead of FULL", b -> b.act(0, -1, RATIO), Check.UNKNOWN);
        full("OUTSIDE ahead of FULL", b -> b.act(4, RATIO, RATIO), Check.OUTSIDE);
        full("FULL ahead of ISFAR", b -> b.act(2, LARGE, LARGE), Check.FULL);
    }

    private static void turn() {
        for (int none : new int[] {-1, NO, 39, 40, Integer.MIN_VALUE, Integer.MAX_VALUE}) {
            some("x", b -> b.turn(none), Check.UNKNOWN);
        }
        some("of 0", b -> b.turn(ZERO), Check.STATE);
        some("of a ROOT", b -> b.turn(FAR_TO_TURN), Check.ISFAR);
        full("EXACT", b -> b.turn(RATIO), Check.FULL);
        full("MADE", b -> b.turn(RULE), Check.FULL);
        full("UNKNOWN ahead of FULL", b -> b.turn(40), Check.UNKNOWN);
        full("STATE ahead of FULL", b -> b.turn(ZERO), Check.STATE);
        full("FULL ahead of ISFAR", b -> b.turn(FAR_TO_TURN), Check.FULL);
    }

    private static void factor() {
        some("i", b -> b.factor(-1, 1), Check.OUTSIDE);
        some("i", b -> b.factor(8, 1), Check.OUTSIDE);
        for (int i = 0; i < 8; i++) {
            int at = i;
            some("v", b -> b.factor(at, 1000001), Check.OUTSIDE);
            some("v", b -> b.factor(at, -1000001), Check.OUTSIDE);
        }
        some("both", b -> b.factor(8, 1000001), Check.OUTSIDE);
    }

    private static void mix() {
        Consumer<RatioStreams> nothingBelow = with(RefusalsTest::some, 1, 2, 3, 4, 0, 0, 0, 0);
        Consumer<RatioStreams> fullNothingBelow = with(RefusalsTest::full, 1, 2, 3, 4, 0, 0, 0, 0);
        Consumer<RatioStreams> farAbove = with(RefusalsTest::some, 2, 0, 0, 0, 0, 0, 0, 1);
        Consumer<RatioStreams> farBelow = with(RefusalsTest::some, 0, 0, 0, 1, 2, 0, 0, 0);
        for (int none : new int[] {-1, NO, 39, 40, Integer.MIN_VALUE, Integer.MAX_VALUE}) {
            some("x", b -> b.mix(none, RATIO), Check.UNKNOWN);
            some("y", b -> b.mix(RATIO, none), Check.UNKNOWN);
        }
        twins.due("UNKNOWN ahead of STATE", nothingBelow, b -> b.mix(NO, RATIO), Check.UNKNOWN);
        twins.due("0 below", nothingBelow, b -> b.mix(RATIO, SMALL), Check.STATE);
        twins.due("STATE ahead of FULL", fullNothingBelow, b -> b.mix(RATIO, SMALL), Check.STATE);
        twins.due("STATE ahead of ISFAR", nothingBelow, b -> b.mix(LARGE, LARGE), Check.STATE);
        twins.due("STATE ahead of both", fullNothingBelow, b -> b.mix(LARGE, LARGE), Check.STATE);
        twins.due("0 below is FULL, of one not EXACT", fullNothingBelow, b -> b.mix(RATIO, RULE), Check.FULL);
        twins.due("far above", farAbove, b -> b.mix(LARGE, RATIO), Check.ISFAR);
        twins.due("far below", farBelow, b -> b.mix(LARGE, RATIO), Check.ISFAR);
        // 2 u u' - 2 u u' is 0, but FAR on the way.
        twins.due("0 below, but FAR", with(RefusalsTest::some, 0, 0, 0, 1, 2, -2, 0, 0), b -> b.mix(LARGE, LARGE),
            Check.ISFAR);
        twins.due("FULL ahead of ISFAR", with(RefusalsTest::full, 2, 0, 0, 0, 0, 0, 0, 1), b -> b.mix(LARGE, RATIO),
            Check.FULL);
        full("EXACT", b -> b.mix(RATIO, RATIO), Check.FULL);
        full("MADE", b -> b.mix(RULE, RATIO), Check.FULL);
        full("UNKNOWN ahead of FULL", b -> b.mix(RATIO, 40), Check.UNKNOWN);
        full("UNKNOWN ahead of FULL", b -> b.mix(-1, RATIO), Check.UNKNOWN);
    }

    private static void drop() {
        for (int none : new int[] {-1, NO, 39, 40, Integer.MIN_VALUE, Integer.MAX_VALUE}) {
            some("drop", b -> b.drop(none), Check.UNKNOWN);
        }
        full("drop", b -> b.drop(40), Check.UNKNOWN);
        full("drop", b -> b.drop(-1), Check.UNKNOWN);
        twins.due("twice", b -> {
            some(b);
            b.drop(MADE);
        }, b -> b.drop(MADE), Check.UNKNOWN);
    }

    // ---- what is told

    private static void told() {
        some("s", b -> b.told(NO, 0), Check.UNKNOWN);
        some("UNKNOWN ahead of OUTSIDE", b -> b.told(NO, 5), Check.UNKNOWN);
        some("UNKNOWN ahead of OUTSIDE", b -> b.told(-1, -1), Check.UNKNOWN);
        some("what", b -> b.told(MADE, -1), Check.OUTSIDE);
        some("what", b -> b.told(MADE, 5), Check.OUTSIDE);
    }

    private static void part() {
        some("s", b -> b.part(NO, 0), Check.UNKNOWN);
        some("UNKNOWN ahead of OUTSIDE", b -> b.part(NO, -1), Check.UNKNOWN);
        some("below 0", b -> b.part(RATIO, -1), Check.OUTSIDE);
        some("behind its end", b -> b.part(RATIO, 4), Check.OUTSIDE);
        some("OUTSIDE ahead of ISOPEN", b -> b.part(NO_PART, -1), Check.OUTSIDE);
        some("not KNOWN", b -> b.part(NO_PART, 0), Check.ISOPEN);
        some("not KNOWN", b -> b.part(ROOT, 60), Check.ISOPEN);
    }

    private static void exact() {
        some("UNKNOWN ahead of OUTSIDE", b -> b.exact(NO, 4), Check.UNKNOWN);
        some("UNKNOWN ahead of OUTSIDE", b -> b.exact(40, -1), Check.UNKNOWN);
        some("of a RATIO", b -> b.exact(RATIO, 2), Check.OUTSIDE);
        some("of a ROOT", b -> b.exact(ROOT, 4), Check.OUTSIDE);
        for (int s : new int[] {RULE, MADE, NO_PART}) {
            some("OUTSIDE ahead of STATE", b -> b.exact(s, 4), Check.OUTSIDE);
            some("OUTSIDE ahead of STATE", b -> b.exact(s, -1), Check.OUTSIDE);
            some("another KIND", b -> b.exact(s, 0), Check.STATE);
            some("another KIND", b -> b.exact(s, 3), Check.STATE);
        }
    }

    private static void round() {
        some("UNKNOWN ahead of OUTSIDE", b -> b.round(NO, 2), Check.UNKNOWN);
        some("what", b -> b.round(ROOT, 2), Check.OUTSIDE);
        some("what", b -> b.round(ROOT, -1), Check.OUTSIDE);
        some("OUTSIDE ahead of ISOPEN", b -> b.round(LONG, 2), Check.OUTSIDE);
        some("there is none", b -> b.round(LONG, 0), Check.ISOPEN);
        some("there is none", b -> b.round(LONG, 1), Check.ISOPEN);
        for (int s : new int[] {RATIO, RULE, MADE, NO_PART}) {
            some("OUTSIDE ahead of STATE", b -> b.round(s, 2), Check.OUTSIDE);
            some("another KIND", b -> b.round(s, 0), Check.STATE);
            some("another KIND", b -> b.round(s, 1), Check.STATE);
        }
    }

    private static void sign() {
        some("s", b -> b.sign(NO), Check.UNKNOWN);
        some("s", b -> b.sign(-1), Check.UNKNOWN);
        some("s", b -> b.sign(40), Check.UNKNOWN);
        some("no PART", b -> b.sign(NO_PART), Check.ISOPEN);
    }

    private static void compare() {
        some("x", b -> b.compare(NO, RATIO), Check.UNKNOWN);
        some("y", b -> b.compare(RATIO, NO), Check.UNKNOWN);
        some("UNKNOWN ahead of ISOPEN", b -> b.compare(NO_PART, NO), Check.UNKNOWN);
        some("UNKNOWN ahead of ISOPEN", b -> b.compare(40, NO_PART), Check.UNKNOWN);
        some("no PART", b -> b.compare(NO_PART, RATIO), Check.ISOPEN);
        some("no PART", b -> b.compare(RATIO, NO_PART), Check.ISOPEN);
    }

    private static void near() {
        some("UNKNOWN ahead of OUTSIDE", b -> b.near(NO, -1, 2), Check.UNKNOWN);
        some("k", b -> b.near(RATIO, -1, 0), Check.OUTSIDE);
        some("behind its end", b -> b.near(RATIO, 4, 0), Check.OUTSIDE);
        some("what", b -> b.near(RATIO, 0, 2), Check.OUTSIDE);
        some("what", b -> b.near(RATIO, 0, -1), Check.OUTSIDE);
        some("OUTSIDE ahead of ISFAR", b -> b.near(ROOT, 59, 2), Check.OUTSIDE);
        some("OUTSIDE ahead of ISFAR", b -> b.near(NEARS_FAR, 2, 0), Check.OUTSIDE);
        some("OUTSIDE ahead of ISOPEN", b -> b.near(NO_PART, 0, 2), Check.OUTSIDE);
        some("OUTSIDE ahead of ISOPEN", b -> b.near(NO_PART, -1, 0), Check.OUTSIDE);
        some("FAR", b -> b.near(ROOT, 59, 0), Check.ISFAR);
        some("ISFAR ahead of ISOPEN", b -> b.near(ROOT, 60, 0), Check.ISFAR);
        some("not KNOWN", b -> b.near(NO_PART, 0, 0), Check.ISOPEN);
    }

    private static void best() {
        some("UNKNOWN ahead of OUTSIDE", b -> b.best(NO, 0, 3, 2), Check.UNKNOWN);
        some("most", b -> b.best(RATIO, 0, 0, 0), Check.OUTSIDE);
        some("how", b -> b.best(RATIO, 1, 3, 0), Check.OUTSIDE);
        some("what", b -> b.best(RATIO, 1, 0, 2), Check.OUTSIDE);
        some("OUTSIDE ahead of ISFAR", b -> b.best(NEARS_FAR, 0, 0, 0), Check.OUTSIDE);
        some("OUTSIDE ahead of ISOPEN", b -> b.best(NO_PART, 1, -1, 0), Check.OUTSIDE);
        some("a NEAR number is FAR", b -> b.best(NEARS_FAR, 1, 0, 0), Check.ISFAR);
        some("a NEAR number is FAR", b -> b.best(NEARS_FAR, 1, 1, 0), Check.ISFAR);
        some("no PART", b -> b.best(NO_PART, 1, 0, 0), Check.ISOPEN);
        some("no PART", b -> b.best(NO_PART, 1, 2, 1), Check.ISOPEN);
        // 10^13 and the golden root: t k is not above 1000 before s k is FAR.
        twins.due("ISFAR ahead of ISOPEN", b -> {
            b.row(1, 0);
            b.rule(1);
            b.ratio(10000000000000L, 1);
            b.act(0, 1, 0);
        }, b -> b.best(2, 1000, 1, 0), Check.ISFAR);
    }

    private static void figure() {
        some("UNKNOWN ahead of OUTSIDE", b -> b.figure(NO, 1, 41), Check.UNKNOWN);
        some("base", b -> b.figure(RATIO, 1, 0), Check.OUTSIDE);
        some("base", b -> b.figure(RATIO, 37, 0), Check.OUTSIDE);
        some("k", b -> b.figure(RATIO, 10, -1), Check.OUTSIDE);
        some("k", b -> b.figure(RATIO, 10, 41), Check.OUTSIDE);
        some("OUTSIDE ahead of ISFAR", b -> b.figure(NEARS_FAR, 10, 41), Check.OUTSIDE);
        some("OUTSIDE ahead of ISOPEN", b -> b.figure(NO_PART, 37, 0), Check.OUTSIDE);
        some("a NEAR number is FAR", b -> b.figure(NEARS_FAR, 10, 0), Check.ISFAR);
        some("no SPAN", b -> b.figure(NO_PART, 10, 0), Check.ISOPEN);
        some("not the same for all", b -> b.figure(ROOT, 10, 40), Check.ISOPEN);
    }

    private static void roll() {
        some("i", b -> b.roll(-2, 0), Check.OUTSIDE);
        some("i", b -> b.roll((int) b.roll(Check.NONE, 0), 0), Check.OUTSIDE);
        some("what", b -> b.roll(0, -1), Check.OUTSIDE);
        some("what", b -> b.roll(0, 10), Check.OUTSIDE);
    }

    private static void count() {
        some("what", b -> b.count(-1), Check.OUTSIDE);
        some("what", b -> b.count(3), Check.OUTSIDE);
    }

    /** What is told is no change, either. */
    private static void tellingChangesNothing() {
        some("told", b -> b.told(MADE, 0), 3);
        some("part", b -> b.part(RATIO, 3), 4);
        some("exact", b -> b.exact(ROOT, 2), 2);
        some("round", b -> b.round(FAR_TO_TURN, 1), 2);
        some("sign", b -> b.sign(NEARS_FAR), -1);
        some("compare", b -> b.compare(RATIO, ROOT), 1);
        some("near", b -> b.near(RATIO, 3, 0), 43);
        some("best", b -> b.best(ROOT, 100, 0, 0), 140);
        some("figure", b -> b.figure(ROOT, 10, 1), 4);
        some("roll", b -> b.roll(0, 0), 0);
        some("count", b -> b.count(1), 2);
    }

    /** A new bench, and one whose last STREAM was dropped, know no STREAM at all. */
    private static void emptyBench() {
        Consumer<RatioStreams> fresh = b -> { };
        Consumer<RatioStreams> emptied = b -> {
            b.ratio(1, 2);
            b.drop(0);
        };
        for (Consumer<RatioStreams> empty : java.util.List.of(fresh, emptied)) {
            for (int s : new int[] {-1, 0, 39, 40}) {
                twins.due("act", empty, b -> b.act(0, s, s), Check.UNKNOWN);
                twins.due("turn", empty, b -> b.turn(s), Check.UNKNOWN);
                twins.due("mix", empty, b -> b.mix(s, s), Check.UNKNOWN);
                twins.due("drop", empty, b -> b.drop(s), Check.UNKNOWN);
                twins.due("told", empty, b -> b.told(s, 0), Check.UNKNOWN);
                twins.due("part", empty, b -> b.part(s, 0), Check.UNKNOWN);
                twins.due("exact", empty, b -> b.exact(s, 0), Check.UNKNOWN);
                twins.due("round", empty, b -> b.round(s, 0), Check.UNKNOWN);
                twins.due("sign", empty, b -> b.sign(s), Check.UNKNOWN);
                twins.due("compare", empty, b -> b.compare(s, s), Check.UNKNOWN);
                twins.due("near", empty, b -> b.near(s, 0, 0), Check.UNKNOWN);
                twins.due("best", empty, b -> b.best(s, 1, 0, 0), Check.UNKNOWN);
                twins.due("figure", empty, b -> b.figure(s, 10, 0), Check.UNKNOWN);
            }
            twins.due("roll", empty, b -> b.roll(0, 0), Check.OUTSIDE);
            twins.due("rule", empty, b -> b.rule(0), Check.STATE);
            twins.due("count", empty, b -> b.count(0), 0);
        }
    }
}
