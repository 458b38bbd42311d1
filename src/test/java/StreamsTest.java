/** Promises 1 to 10: how STREAMS come and go. */
public final class StreamsTest {
    private static final Check check = new Check("StreamsTest");
    private static final long GREATEST = 1000000000000000L;

    public static void main(String[] args) {
        newObject();
        ratio();
        ratioOfMoreThanSixtyParts();
        root();
        rootOutside();
        row();
        rule();
        actOfRatios();
        actOfRoots();
        actIsFar();
        actMade();
        actRefused();
        turn();
        factor();
        mixExact();
        mixMade();
        mixWithEnd();
        drop();
        full();
        check.end();
    }

    private static void newObject() {
        RatioStreams b = new RatioStreams();
        for (int what = 0; what < 3; what++) {
            check.due("new count", b.count(what), 0);
        }
        check.due("new roll", b.roll(Check.NONE, 0), 0);
        check.due("new roll step", b.roll(0, 0), Check.OUTSIDE);
        for (int s = 0; s < 40; s++) {
            check.due("new told", b.told(s, 0), Check.UNKNOWN);
        }
        for (int i = 0; i < 8; i++) {
            check.due("new factor", b.factor(i, 0), 0);
        }
        check.due("new rule", b.rule(0), Check.STATE);
    }

    private static void ratio() {
        RatioStreams b = new RatioStreams();
        check.due("ratio", b.ratio(-12, -8), 0);
        check.dueExact(b, 0, 3, 2);
        check.dueParts(b, 0, 1, 2, Check.OUTSIDE);
        check.due("ratio", b.ratio(12, -8), 1);
        check.dueExact(b, 1, -3, 2);
        check.dueParts(b, 1, -2, 2, Check.OUTSIDE);
        check.due("ratio", b.ratio(0, -5), 2);
        check.dueExact(b, 2, 0, 1);
        check.dueParts(b, 2, 0, Check.OUTSIDE);
        check.due("ratio", b.ratio(GREATEST, -GREATEST), 3);
        check.dueExact(b, 3, -1, 1);
        check.due("ratio", b.ratio(-GREATEST, 1), 4);
        check.dueParts(b, 4, -GREATEST, Check.OUTSIDE);
        check.due("ratio", b.ratio(1, GREATEST), 5);
        check.dueParts(b, 5, 0, GREATEST, Check.OUTSIDE);
        check.due("ratio", b.ratio(GREATEST + 1, 1), Check.OUTSIDE);
        check.due("ratio", b.ratio(1, -GREATEST - 1), Check.OUTSIDE);
        check.due("ratio", b.ratio(Long.MIN_VALUE, 1), Check.OUTSIDE);
        check.due("ratio", b.ratio(1, Long.MIN_VALUE), Check.OUTSIDE);
        check.due("ratio", b.ratio(Long.MAX_VALUE, Long.MAX_VALUE), Check.OUTSIDE);
        check.due("ratio", b.ratio(7, 0), Check.OUTSIDE);
        check.due("count", b.count(0), 6);
    }

    private static void ratioOfMoreThanSixtyParts() {
        RatioStreams b = new RatioStreams();
        long[] fib = new long[74];
        fib[1] = 1;
        for (int i = 2; i < fib.length; i++) {
            fib[i] = fib[i - 1] + fib[i - 2];
        }
        // F(62) / F(61) is 1, 59 times, then 2: its last PART is the sixtieth.
        check.due("ratio", b.ratio(fib[62], fib[61]), 0);
        check.due("told known", b.told(0, 1), 60);
        check.due("told ends", b.told(0, 2), 1);
        check.due("part 59", b.part(0, 59), 2);
        check.due("part 60", b.part(0, 60), Check.OUTSIDE);
        check.due("ratio", b.ratio(fib[63], fib[62]), 1);
        check.due("told known", b.told(1, 1), 60);
        check.due("told ends", b.told(1, 2), 0);
        check.due("part 59", b.part(1, 59), 1);
        check.due("part 60", b.part(1, 60), Check.ISOPEN);
        check.due("part far behind", b.part(1, 1000), Check.ISOPEN);
        check.due("compare with itself", b.compare(1, 1), Check.ISOPEN);
        check.due("compare with itself", b.compare(0, 0), 0);
        check.due("told open", b.told(1, 4), 0);
        check.dueExact(b, 1, fib[63], fib[62], Check.OUTSIDE);
    }

    private static void root() {
        RatioStreams b = new RatioStreams();
        check.due("root", b.root(1, 1, 5, 2), 0);
        check.dueExact(b, 0, 1, 1, 5, 2, Check.OUTSIDE);
        for (int k = 0; k < 60; k++) {
            check.due("part of the golden root", b.part(0, k), 1);
        }
        check.due("part 60", b.part(0, 60), Check.ISOPEN);
        check.due("root", b.root(6, -4, 12, -10), 1);
        check.dueExact(b, 1, -3, 4, 3, 5);
        check.due("root", b.root(0, -1, 2, 1), 2);
        check.dueParts(b, 2, -2, 1, 1, 2, 2, 2);
        check.due("root", b.root(0, 1, 2, -1), 3);
        check.dueExact(b, 3, 0, -1, 2, 1);
        check.due("root", b.root(0, 1, 7, 1), 4);
        check.dueParts(b, 4, 2, 1, 1, 1, 4, 1, 1, 1, 4);
        check.due("root of a square", b.root(-1, 2, 900, 6), 5);
        check.due("kind", b.told(5, 0), 0);
        check.dueExact(b, 5, 59, 6, Check.OUTSIDE);
        check.due("root of 0", b.root(5, 7, 0, 10), 6);
        check.dueExact(b, 6, 1, 2);
        check.due("root of 1", b.root(5, -7, 1, -4), 7);
        check.dueExact(b, 7, 1, 2);
        check.due("no root", b.root(9, 0, 7, 3), 8);
        check.dueExact(b, 8, 3, 1);
        check.due("greatest", b.root(-10000, 100, 997, -1000), 9);
        check.dueExact(b, 9, 100, -1, 997, 10);
        check.due("squares come to b", b.root(0, 100, 720, 7), 10);
        check.dueExact(b, 10, 0, 1200, 5, 7);
        check.due("kind", b.told(10, 0), 1);
        check.due("known", b.told(10, 1), 60);
        check.due("ends", b.told(10, 2), 0);
    }

    private static void rootOutside() {
        RatioStreams b = new RatioStreams();
        check.due("a", b.root(10001, 1, 2, 1), Check.OUTSIDE);
        check.due("a", b.root(-10001, 1, 2, 1), Check.OUTSIDE);
        check.due("a", b.root(Integer.MIN_VALUE, 1, 2, 1), Check.OUTSIDE);
        check.due("b", b.root(0, 101, 2, 1), Check.OUTSIDE);
        check.due("b", b.root(0, Integer.MIN_VALUE, 2, 1), Check.OUTSIDE);
        check.due("n", b.root(0, 1, -1, 1), Check.OUTSIDE);
        check.due("n", b.root(0, 1, 1001, 1), Check.OUTSIDE);
        check.due("d", b.root(0, 1, 2, 0), Check.OUTSIDE);
        check.due("d", b.root(0, 1, 2, 1001), Check.OUTSIDE);
        check.due("d", b.root(0, 1, 2, Integer.MIN_VALUE), Check.OUTSIDE);
        check.due("count", b.count(0), 0);
        check.due("n 1000", b.root(0, 1, 1000, 1), 0);
        check.dueExact(b, 0, 0, 10, 10, 1);
    }

    private static void row() {
        RatioStreams b = new RatioStreams();
        check.due("row", b.row(0, 0), Check.OUTSIDE);
        check.due("row", b.row(1000001, 0), Check.OUTSIDE);
        check.due("row", b.row(1, -1), Check.OUTSIDE);
        check.due("row", b.row(1, 1000001), Check.OUTSIDE);
        check.due("count", b.count(1), 0);
        for (int i = 1; i <= 8; i++) {
            check.due("row", b.row(1000000, 1000000), i);
        }
        check.due("row", b.row(1, 1), Check.FULL);
        check.due("row", b.row(0, 1), Check.OUTSIDE);
        check.due("count", b.count(1), 8);
    }

    private static void rule() {
        RatioStreams b = new RatioStreams();
        check.due("rule", b.rule(1000001), Check.OUTSIDE);
        check.due("rule", b.rule(-1000001), Check.OUTSIDE);
        check.due("rule", b.rule(Integer.MIN_VALUE), Check.OUTSIDE);
        check.due("rule", b.rule(1000000), Check.STATE);
        b.row(3, 5);
        b.row(7, 0);
        check.due("rule", b.rule(-1000000), 0);
        check.dueParts(b, 0, -1000000, 3, 7, 8, 7, 13, 7, 18, 7);
        check.due("part 59", b.part(0, 59), 3 + 29 * 5);
        check.due("part 60", b.part(0, 60), Check.ISOPEN);
        check.due("kind", b.told(0, 0), 2);
        check.due("known", b.told(0, 1), 60);
        check.due("ends", b.told(0, 2), 0);
        check.due("rows", b.count(1), 0);
        check.due("rule", b.rule(0), Check.STATE);
        b.row(1000000, 1000000);
        check.due("rule", b.rule(0), 1);
        check.due("part 59", b.part(1, 59), 59000000);
    }

    private static void actOfRatios() {
        RatioStreams b = new RatioStreams();
        b.ratio(5, 6);
        b.ratio(-3, 4);
        check.due("add", b.act(0, 0, 1), 2);
        check.dueExact(b, 2, 1, 12);
        check.due("take away", b.act(1, 0, 1), 3);
        check.dueExact(b, 3, 19, 12);
        check.due("take away", b.act(1, 1, 0), 4);
        check.dueExact(b, 4, -19, 12);
        check.due("times", b.act(2, 0, 1), 5);
        check.dueExact(b, 5, -5, 8);
        check.due("over", b.act(3, 0, 1), 6);
        check.dueExact(b, 6, -10, 9);
        check.due("kind", b.told(6, 0), 0);
        check.due("taken", b.told(6, 3), 0);
        check.due("roll stays empty", b.roll(Check.NONE, 0), 0);
    }

    private static void actOfRoots() {
        RatioStreams b = new RatioStreams();
        b.root(1, 2, 3, 4);
        b.root(5, -1, 3, 6);
        b.ratio(-2, 7);
        check.due("add", b.act(0, 0, 1), 3);
        check.dueExact(b, 3, 13, 4, 3, 12);
        check.due("take away", b.act(1, 0, 1), 4);
        check.dueExact(b, 4, -7, 8, 3, 12);
        check.due("times", b.act(2, 0, 1), 5);
        check.dueExact(b, 5, -1, 9, 3, 24);
        check.due("over", b.act(3, 0, 1), 6);
        check.dueExact(b, 6, 3, 3, 3, 4);
        check.due("over a ratio", b.act(3, 0, 2), 7);
        check.dueExact(b, 7, -7, -14, 3, 8);
        check.due("a ratio over", b.act(3, 2, 0), 8);
        check.dueExact(b, 8, 8, -16, 3, 77);
        check.due("a ratio and a root", b.act(0, 2, 0), 9);
        check.dueExact(b, 9, -1, 14, 3, 28);
        check.due("no root left", b.act(1, 0, 0), 10);
        check.dueExact(b, 10, 0, 1, Check.OUTSIDE);
        check.due("kind", b.told(10, 0), 0);
        check.due("times 0", b.act(2, 0, 10), 11);
        check.dueExact(b, 11, 0, 1);
        check.due("over itself", b.act(3, 1, 1), 12);
        check.dueExact(b, 12, 1, 1);
        b.root(0, 1, 12, 1);
        check.due("like n, once squares came to b", b.act(2, 13, 0), 14);
        check.dueExact(b, 14, 6, 1, 3, 2);
        check.due("over 0", b.act(3, 0, 10), Check.STATE);
    }

    private static void actIsFar() {
        RatioStreams b = new RatioStreams();
        b.ratio(GREATEST, 1);
        b.ratio(1, 2);
        check.due("a sum of 10^15 + 0", b.act(2, 0, 1), 2);
        check.dueExact(b, 2, GREATEST / 2, 1);
        check.due("a product above it", b.act(0, 0, 1), Check.ISFAR);
        check.due("a product above it", b.act(3, 0, 1), Check.ISFAR);
        check.due("still free", b.told(3, 0), Check.UNKNOWN);
        b.ratio(-1, 1);
        check.due("just not far", b.act(0, 0, 3), 4);
        check.due("a sum above it", b.act(1, 0, 3), Check.ISFAR);
        check.due("far though it would come to 0", b.act(1, 2, 2), 5);
        b.ratio(1, 40000000);
        check.due("far though it would come to 0", b.act(1, 6, 6), Check.ISFAR);
        b.root(0, 100, 997, 1);
        b.ratio(1000, 1);
        check.due("b b n far", b.act(2, 7, 8), Check.ISFAR);
        check.due("a far", b.act(0, 7, 2), Check.ISFAR);
        b.ratio(1000000000, 1);
        check.due("a at its most", b.act(0, 7, 9), 10);
        check.dueExact(b, 10, 1000000000, 100, 997, 1);
        b.ratio(1000000001, 1);
        check.due("a far", b.act(0, 7, 11), Check.ISFAR);
        b.root(1, 1, 2, 1000);
        b.ratio(10, 1);
        check.due("d at its most", b.act(3, 12, 13), 14);
        check.dueExact(b, 14, 1, 1, 2, 10000);
        b.ratio(11, 1);
        check.due("d far", b.act(3, 12, 15), Check.ISFAR);
        b.root(1, 1, 2, 137);
        b.ratio(73, 1);
        check.due("d is 10001", b.act(3, 16, 17), Check.ISFAR);
        b.drop(17);
        b.drop(16);
        check.due("turn of a large root", b.turn(10), Check.ISFAR);
        b.root(0, 1, 10, 1);
        check.due("b b n at its most", b.act(2, 16, 8), 17);
        check.dueExact(b, 17, 0, 1000, 10, 1);
        b.ratio(1001, 1);
        check.due("b b n far", b.act(2, 16, 18), Check.ISFAR);
    }

    private static void actMade() {
        RatioStreams b = new RatioStreams();
        b.root(0, 1, 2, 1);
        b.root(0, 1, 3, 1);
        check.due("add", b.act(0, 0, 1), 2);
        check.due("kind", b.told(2, 0), 3);
        // The root of 2 and that of 3 are 3.14626436994197234232913506571..
        check.dueParts(b, 2, 3, 6, 1, 5, 7, 1, 1, 4, 1, 38, 43, 1, 3, 2, 1, 1, 1, 1, 2, 4);
        check.due("take away", b.act(1, 0, 1), 3);
        check.dueParts(b, 3, -1, 1, 2, 6, 1, 5, 7, 1, 1, 4, 1, 38);
        check.due("times", b.act(2, 0, 1), 4);
        check.dueParts(b, 4, 2, 2, 4, 2, 4, 2, 4, 2, 4);
        check.due("over", b.act(3, 0, 1), 5);
        check.dueParts(b, 5, 0, 1, 4, 2, 4, 2, 4, 2, 4);
        check.due("with a rule", b.row(1, 1), 1);
        b.rule(0);
        b.ratio(0, 1);
        check.due("made, with 0", b.act(0, 6, 7), 8);
        check.due("kind", b.told(8, 0), 3);
        check.dueParts(b, 8, 0, 1, 2, 3, 4, 5, 6, 7);
        check.due("a rule over 0", b.act(3, 6, 7), Check.STATE);
        check.due("0 over a rule is never sure", b.act(3, 7, 6), 9);
    }

    private static void actRefused() {
        RatioStreams b = new RatioStreams();
        b.ratio(0, 1);
        check.due("x", b.act(4, 1, 0), Check.UNKNOWN);
        check.due("y", b.act(-1, 0, 1), Check.UNKNOWN);
        check.due("x", b.act(0, -1, 0), Check.UNKNOWN);
        check.due("y", b.act(0, 0, 40), Check.UNKNOWN);
        check.due("y", b.act(0, 0, Integer.MAX_VALUE), Check.UNKNOWN);
        check.due("how", b.act(4, 0, 0), Check.OUTSIDE);
        check.due("how", b.act(-1, 0, 0), Check.OUTSIDE);
        check.due("over 0", b.act(3, 0, 0), Check.STATE);
        check.due("count", b.count(0), 1);
    }

    private static void turn() {
        RatioStreams b = new RatioStreams();
        b.ratio(-4, 6);
        check.due("turn", b.turn(0), 1);
        check.dueExact(b, 1, -3, 2);
        b.root(1, 1, 5, 2);
        check.due("turn", b.turn(2), 3);
        check.dueExact(b, 3, -1, 1, 5, 2);
        b.ratio(0, 3);
        check.due("turn of 0", b.turn(4), Check.STATE);
        check.due("turn of none", b.turn(5), Check.UNKNOWN);
        check.due("turn of none", b.turn(Integer.MIN_VALUE), Check.UNKNOWN);
        b.row(2, 1);
        b.rule(3);
        check.due("turn of a rule", b.turn(5), 6);
        check.due("kind", b.told(6, 0), 3);
        check.dueParts(b, 6, 0, 3, 2, 3, 4, 5, 6);
        check.due("first it takes from x", b.roll(0, 0), 0);
        check.due("then from y, too", b.roll(1, 0), 1);
    }

    private static void factor() {
        RatioStreams b = new RatioStreams();
        check.due("i", b.factor(-1, 0), Check.OUTSIDE);
        check.due("i", b.factor(8, 0), Check.OUTSIDE);
        check.due("v", b.factor(0, 1000001), Check.OUTSIDE);
        check.due("v", b.factor(0, -1000001), Check.OUTSIDE);
        check.due("v", b.factor(0, Integer.MIN_VALUE), Check.OUTSIDE);
        for (int i = 0; i < 8; i++) {
            check.due("first", b.factor(i, 1000000 - i), 0);
        }
        for (int i = 0; i < 8; i++) {
            check.due("then", b.factor(i, -1000000), 1000000 - i);
        }
        check.due("then", b.factor(7, 0), -1000000);
    }

    private static void factors(RatioStreams b, int... eight) {
        for (int i = 0; i < 8; i++) {
            b.factor(i, eight[i]);
        }
    }

    private static void mixExact() {
        RatioStreams b = new RatioStreams();
        b.ratio(2, 3);
        b.ratio(5, 7);
        check.due("x", b.mix(2, 0), Check.UNKNOWN);
        check.due("y", b.mix(0, -1), Check.UNKNOWN);
        check.due("0 below", b.mix(0, 1), Check.STATE);
        factors(b, 1, 2, 3, 4, 5, 6, 7, -8);
        check.due("mix", b.mix(0, 1), 2);
        // 10 + 28 + 45 + 84 by 50 + 84 + 105 - 168
        check.dueExact(b, 2, 167, 71);
        check.due("factors stay", b.mix(1, 0), 3);
        // 10 + 30 + 42 + 84 by 50 + 90 + 98 - 168
        check.dueExact(b, 3, 83, 35);
        b.ratio(GREATEST, 1);
        b.ratio(1, GREATEST);
        factors(b, 2, 0, 0, 0, 0, 0, 0, 1);
        check.due("far above", b.mix(4, 0), Check.ISFAR);
        factors(b, 2, 0, 0, 0, 0, 0, 0, 0);
        check.due("far above, 0 below", b.mix(4, 0), Check.STATE);
        factors(b, 0, 0, 0, 1, 1, 0, -1, 0);
        b.ratio(1, 1);
        check.due("10^15 - 10^15 below, all not far", b.mix(6, 4), Check.STATE);
        factors(b, 0, 0, 0, 1, 2, 0, -2, 0);
        check.due("0 below, but far on the way", b.mix(6, 4), Check.ISFAR);
        b.ratio(0, 1);
        factors(b, 2, 0, 0, 1, 0, 0, 0, 1);
        check.due("far ahead of a factor 0", b.mix(4, 7), Check.ISFAR);
        check.due("not far with the 0 first", b.mix(7, 4), 8);
        check.due("kind", b.told(3, 0), 0);
        check.due("roll stays empty", b.roll(Check.NONE, 0), 0);
    }

    private static void mixMade() {
        RatioStreams b = new RatioStreams();
        b.root(0, 1, 2, 1);
        factors(b, 1, 0, 0, 0, 0, 0, 0, 1);
        check.due("like roots are not EXACT for mix", b.mix(0, 0), 1);
        check.due("kind", b.told(1, 0), 3);
        check.due("2 is never sure", b.told(1, 1), 0);
        factors(b, 0, 0, 0, 5, 0, 0, 0, 3);
        check.due("5 / 3, whatever comes", b.mix(0, 0), 2);
        check.dueParts(b, 2, 1, 1, 2, Check.ISOPEN);
        check.due("ends", b.told(2, 2), 0);
        check.due("open", b.told(2, 4), 1);
        // Behind 21 of x and 20 of y the CORNER (a + b + c + d) is 54608393 times 22619537.
        check.due("till a sum of the CORNERS is FAR", b.told(2, 3), 41);
        factors(b, 0, 0, 0, 0, 0, 0, 0, 0);
        check.due("all 0", b.mix(0, 0), 3);
        check.due("known", b.told(3, 1), 0);
        check.due("all PARTS were TAKEN", b.told(3, 3), 120);
        check.due("steps", b.roll(Check.NONE, 0), 120);
        check.due("part", b.part(3, 0), Check.ISOPEN);
        // The root of 2 times 3 by (the root of 2 and 1) is 1.7573593..
        factors(b, 0, 3, 0, 0, 0, 1, 0, 1);
        check.due("mix", b.mix(0, 0), 4);
        check.dueParts(b, 4, 1, 1, 3, 8, 4, 8, 4, 8, 4);
    }

    private static void mixWithEnd() {
        RatioStreams b = new RatioStreams();
        b.ratio(5, 2);
        b.root(0, 1, 2, 1);
        factors(b, 0, 1, 1, 0, 0, 0, 0, 1);
        check.due("2.5 and the root of 2", b.mix(0, 1), 2);
        // 3.9142135623730950488..
        check.dueParts(b, 2, 3, 1, 10, 1, 1, 1, 10, 1, 1, 1, 10);
        int outs = 0;
        for (int i = 0; i < b.roll(Check.NONE, 0); i++) {
            if (b.roll(i, 0) == 2) {
                outs++;
                check.due("the PART of OUT", b.roll(i, 1), 0);
                for (int what : new int[] {2, 3, 6, 7}) {
                    check.due("a, b, e, f behind x OUT", b.roll(i, what), 0);
                }
            }
        }
        check.due("x is OUT once", outs, 1);
        check.due("y OUT likewise", b.mix(1, 0), 3);
        check.dueParts(b, 3, 3, 1, 10, 1, 1, 1, 10);
        outs = 0;
        for (int i = 0; i < b.roll(Check.NONE, 0); i++) {
            check.due("x is never OUT", b.roll(i, 0) == 2 ? 1 : 0, 0);
            if (b.roll(i, 0) == 3) {
                outs++;
                for (int what : new int[] {1, 2, 4, 6, 8}) {
                    check.due("the PART, a, c, e, g of y OUT", b.roll(i, what), 0);
                }
            }
        }
        check.due("y is OUT once", outs, 1);
    }

    private static void drop() {
        RatioStreams b = new RatioStreams();
        check.due("drop", b.drop(0), Check.UNKNOWN);
        b.ratio(1, 2);
        b.root(0, 1, 2, 1);
        b.root(0, 1, 3, 1);
        b.act(0, 1, 2);
        check.due("drop", b.drop(1), 3);
        check.due("drop again", b.drop(1), Check.UNKNOWN);
        check.due("drop", b.drop(-1), Check.UNKNOWN);
        check.due("drop", b.drop(40), Check.UNKNOWN);
        check.due("what was MADE of it stays", b.part(3, 1), 6);
        check.due("drop", b.drop(0), 2);
        check.due("the least free one first", b.ratio(9, 1), 0);
        check.dueExact(b, 0, 9, 1);
        check.due("then the next", b.ratio(8, 1), 1);
        check.due("kind of the new one", b.told(1, 0), 0);
        check.due("then a new one", b.ratio(7, 1), 4);
        check.due("what was MADE stays", b.part(3, 1), 6);
        check.due("open ones", b.count(2), 1);
        check.due("drop", b.drop(3), 4);
        check.due("open ones", b.count(2), 0);
    }

    private static void full() {
        RatioStreams b = new RatioStreams();
        b.ratio(0, 1);
        b.ratio(GREATEST, 1);
        b.root(0, 1, 2, 1);
        b.root(0, 1, 3, 1);
        for (int i = 4; i < 40; i++) {
            check.due("ratio", b.ratio(i, 1), i);
        }
        check.due("ratio", b.ratio(1, 1), Check.FULL);
        check.due("ratio", b.ratio(1, 0), Check.OUTSIDE);
        check.due("root", b.root(0, 1, 2, 1), Check.FULL);
        check.due("root", b.root(0, 1, 2, 0), Check.OUTSIDE);
        check.due("rule", b.rule(1), Check.STATE);
        b.row(3, 3);
        check.due("rule", b.rule(1), Check.FULL);
        check.due("the ROWS stay", b.count(1), 1);
        check.due("act", b.act(0, 2, 3), Check.FULL);
        check.due("FULL is ahead of ISFAR", b.act(2, 1, 1), Check.FULL);
        check.due("STATE is ahead of FULL", b.act(3, 1, 0), Check.STATE);
        check.due("turn", b.turn(2), Check.FULL);
        check.due("turn of 0", b.turn(0), Check.STATE);
        check.due("STATE is ahead of FULL", b.mix(0, 1), Check.STATE);
        b.factor(7, 1);
        check.due("mix", b.mix(0, 1), Check.FULL);
        check.due("mix", b.mix(2, 3), Check.FULL);
        check.due("count", b.count(0), 40);
        check.due("roll", b.roll(Check.NONE, 0), 0);
        check.due("drop", b.drop(39), 39);
        check.due("the kept ROW", b.rule(1), 39);
        check.dueParts(b, 39, 1, 3, 6, 9);
    }
}
