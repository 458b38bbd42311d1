/** Promises 11 to 21: what is told of STREAMS. */
public final class ToldTest {
    private static final Check check = new Check("ToldTest");
    private static final long GREATEST = 1000000000000000L;

    public static void main(String[] args) {
        told();
        part();
        exact();
        round();
        sign();
        compare();
        near();
        nearIsFar();
        best();
        bestOfNegative();
        bestTies();
        bestRefused();
        figureOfRatio();
        figureOfOthers();
        figureByItsSpan();
        figureRefused();
        roll();
        outAheadOfGiving();
        outOfOnePart();
        outAndFar();
        outBehindEveryLastPart();
        noPartFromZeroBelow();
        rollStays();
        count();
        check.end();
    }

    private static RatioStreams bench() {
        RatioStreams b = new RatioStreams();
        b.ratio(43, 30);          // 0: 1 2 3 4
        b.root(0, 1, 2, 1);       // 1: 1 2 2 2 ..
        b.row(1, 1);
        b.rule(0);                // 2: 0 1 2 3 ..
        b.act(0, 1, 2);           // 3: MADE
        b.act(1, 2, 2);           // 4: MADE, no PART is KNOWN
        return b;
    }

    private static void told() {
        RatioStreams b = bench();
        long[][] due = {{0, 4, 1, 0, 0}, {1, 60, 0, 0, 0}, {2, 60, 0, 0, 0}};
        for (int s = 0; s < due.length; s++) {
            for (int what = 0; what < 5; what++) {
                check.due("told(" + s + ", " + what + ")", b.told(s, what), due[s][what]);
            }
        }
        check.due("kind", b.told(3, 0), 3);
        check.due("ends", b.told(3, 2), 0);
        check.due("open", b.told(3, 4), 1);
        check.due("no parts", b.told(4, 1), 0);
        check.due("open", b.told(4, 4), 1);
        check.due("no such stream", b.told(5, 9), Check.UNKNOWN);
        check.due("no such stream", b.told(-1, 0), Check.UNKNOWN);
        check.due("what", b.told(0, -1), Check.OUTSIDE);
        check.due("what", b.told(0, 5), Check.OUTSIDE);
        RatioStreams c = new RatioStreams();
        c.row(1001, 0);
        c.rule(1);
        c.ratio(1, 3);
        // Large PARTS tell enough for more than they are, and a RATIO keeps the eight numbers small.
        c.act(2, 0, 1);
        check.due("known", c.told(2, 1), 60);
        check.due("ends", c.told(2, 2), 0);
        check.due("sixty are enough not to be open", c.told(2, 4), 0);
        check.due("count", c.count(2), 0);
    }

    private static void part() {
        RatioStreams b = bench();
        check.dueParts(b, 0, 1, 2, 3, 4, Check.OUTSIDE, Check.OUTSIDE);
        check.due("below 0", b.part(1, -1), Check.OUTSIDE);
        check.due("not KNOWN", b.part(1, 60), Check.ISOPEN);
        check.due("not KNOWN", b.part(2, Integer.MAX_VALUE), Check.ISOPEN);
        check.due("below 0", b.part(0, Integer.MIN_VALUE), Check.OUTSIDE);
        check.due("last of MADE", b.part(3, (int) b.told(3, 1)), Check.ISOPEN);
        check.due("none KNOWN", b.part(4, 0), Check.ISOPEN);
        check.due("none KNOWN", b.part(4, -1), Check.OUTSIDE);
        check.due("no such stream", b.part(5, -1), Check.UNKNOWN);
    }

    private static void exact() {
        RatioStreams b = bench();
        check.dueExact(b, 0, 43, 30, Check.OUTSIDE, Check.OUTSIDE);
        check.dueExact(b, 1, 0, 1, 2, 1, Check.OUTSIDE);
        for (int s = 2; s < 5; s++) {
            check.due("another KIND", b.exact(s, 0), Check.STATE);
            check.due("another KIND", b.exact(s, 3), Check.STATE);
            check.due("what", b.exact(s, 4), Check.OUTSIDE);
            check.due("what", b.exact(s, -1), Check.OUTSIDE);
        }
        check.due("what", b.exact(0, -1), Check.OUTSIDE);
        check.due("no such stream", b.exact(5, 9), Check.UNKNOWN);
    }

    private static void dueRound(RatioStreams b, int s, long from, long length) {
        check.due("round(" + s + ", 0)", b.round(s, 0), from);
        check.due("round(" + s + ", 1)", b.round(s, 1), length);
    }

    private static void round() {
        RatioStreams b = new RatioStreams();
        b.root(1, 1, 5, 2);
        dueRound(b, 0, 0, 1);
        b.root(0, 1, 7, 1);
        dueRound(b, 1, 1, 4);
        b.root(0, -1, 2, 1);
        dueRound(b, 2, 3, 1);
        // The root of 991 comes round in 60 from PART 1 on: TAIL 61 is not looked at.
        b.root(0, 1, 991, 1);
        dueRound(b, 3, Check.ISOPEN, Check.ISOPEN);
        // The root of 94 comes round in 16: 9 1 2 3 1 1 5 1 8 1 5 1 1 3 2 1 18.
        b.root(0, 1, 94, 1);
        dueRound(b, 4, 1, 16);
        b.root(-7, 1, 94, 1);
        dueRound(b, 5, 1, 16);
        b.root(9, 1, 94, 1);
        dueRound(b, 6, 0, 16);
        // TAIL 60 is TAIL 2, and is looked at.
        b.root(0, 1, 13, 19);
        dueRound(b, 7, 2, 58);
        b.ratio(1, 3);
        check.due("another KIND", b.round(8, 0), Check.STATE);
        check.due("what", b.round(8, 2), Check.OUTSIDE);
        check.due("what", b.round(0, -1), Check.OUTSIDE);
        check.due("no such stream", b.round(9, 2), Check.UNKNOWN);
    }

    private static void sign() {
        RatioStreams b = bench();
        check.due("above 0", b.sign(0), 1);
        check.due("above 0", b.sign(2), 1);
        check.due("no PART", b.sign(4), Check.ISOPEN);
        check.due("no such stream", b.sign(5), Check.UNKNOWN);
        b.ratio(0, 1);
        check.due("0", b.sign(5), 0);
        b.ratio(-1, 1000);
        check.due("below 0", b.sign(6), -1);
        b.ratio(1, 1000);
        check.due("above 0", b.sign(7), 1);
        b.root(-2, 1, 3, 1);
        check.due("below 0", b.sign(8), -1);
        // 0 times what is told by a RULE is 0 and never sure: 0 is GIVEN, then nothing.
        b.act(2, 5, 2);
        check.due("one PART", b.told(9, 1), 1);
        check.due("it is 0", b.part(9, 0), 0);
        check.due("just one, 0", b.sign(9), Check.ISOPEN);
    }

    private static void compare() {
        RatioStreams b = bench();
        check.due("43 / 30 and the root of 2", b.compare(0, 1), 1);
        check.due("the root of 2 and 43 / 30", b.compare(1, 0), -1);
        check.due("a RATIO and itself", b.compare(0, 0), 0);
        check.due("a ROOT and itself", b.compare(1, 1), 0);
        check.due("a RULE and itself", b.compare(2, 2), Check.ISOPEN);
        check.due("no PART", b.compare(0, 4), Check.ISOPEN);
        check.due("no PART", b.compare(4, 4), Check.ISOPEN);
        check.due("x", b.compare(5, 0), Check.UNKNOWN);
        check.due("y", b.compare(0, -1), Check.UNKNOWN);
        b.ratio(10, 7);
        check.due("1 2 3 and 1 2 3 4", b.compare(5, 0), -1);
        check.due("1 2 3 4 and 1 2 3", b.compare(0, 5), 1);
        b.ratio(3, 2);
        check.due("1 2 and 1 2 3", b.compare(6, 5), 1);
        check.due("1 2 3 and 1 2", b.compare(5, 6), -1);
        b.root(0, 2, 2, 2);
        check.due("a like ROOT", b.compare(1, 7), 0);
        b.row(2, 0);
        b.rule(1);
        check.due("like PARTS, but no ROOT", b.compare(1, 8), Check.ISOPEN);
        b.ratio(-1, 2);
        b.ratio(-1, 3);
        check.due("-1 2 and -1 1 2", b.compare(9, 10), -1);
    }

    private static void near() {
        RatioStreams b = bench();
        long[][] due = {{1, 1}, {3, 2}, {10, 7}, {43, 30}};
        for (int k = 0; k < due.length; k++) {
            check.due("upper " + k, b.near(0, k, 0), due[k][0]);
            check.due("lower " + k, b.near(0, k, 1), due[k][1]);
        }
        check.due("behind its end", b.near(0, 4, 0), Check.OUTSIDE);
        check.due("below 0", b.near(1, -1, 0), Check.OUTSIDE);
        check.due("what", b.near(0, 0, 2), Check.OUTSIDE);
        check.due("what", b.near(0, 0, -1), Check.OUTSIDE);
        check.due("no such stream", b.near(5, 0, 0), Check.UNKNOWN);
        check.due("no PART", b.near(4, 0, 0), Check.ISOPEN);
        int known = (int) b.told(3, 1);
        check.due("not KNOWN, none FAR", b.near(3, known, 0), Check.ISOPEN);
        b.ratio(-7, 2);
        check.due("0 of a negative one", b.near(5, 0, 0), -4);
        check.due("0 of a negative one", b.near(5, 0, 1), 1);
        check.due("its last", b.near(5, 1, 0), -7);
        b.ratio(-GREATEST, 1);
        check.due("GREATEST is not FAR", b.near(6, 0, 0), -GREATEST);
        // All PARTS 1: s 59 is F(61), not FAR.
        b.root(1, 1, 5, 2);
        check.due("upper 59", b.near(7, 59, 0), 2504730781961L);
        check.due("lower 59", b.near(7, 59, 1), 1548008755920L);
        check.due("not KNOWN, none FAR", b.near(7, 60, 0), Check.ISOPEN);
    }

    private static void nearIsFar() {
        RatioStreams b = new RatioStreams();
        b.root(0, 1, 2, 1);
        int last = 0;
        for (int k = 0; k < 60 && b.near(0, k, 0) != Check.ISFAR; k++) {
            last = k;
        }
        // (1 + R) ^ 39 is 8.5 10^14 and about twice the upper one, (1 + R) ^ 40 twice 1.03 10^15.
        check.due("the last one that is not FAR", last, 38);
        check.due("its upper one", b.near(0, 38, 0), 423859315570607L);
        check.due("its lower one", b.near(0, 38, 1), 299713796309065L);
        check.due("the upper one is FAR, so both are", b.near(0, 39, 1), Check.ISFAR);
        check.due("not KNOWN, but FAR ahead of it", b.near(0, 60, 0), Check.ISFAR);
        // -10^15 / p with 7 p = 10^15 + 1: the product 7 p is FAR, the sum is not.
        b.ratio(-GREATEST, (GREATEST + 1) / 7);
        check.due("parts", b.told(1, 1), 2);
        check.due("a product that is FAR", b.near(1, 1, 0), Check.ISFAR);
        check.due("ahead of it", b.near(1, 0, 0), -7);
        check.due("figures of it", b.figure(1, 10, 0), Check.ISFAR);
    }

    private static void dueBest(RatioStreams b, int s, int most, int how, long upper, long lower) {
        String call = "best(" + s + ", " + most + ", " + how + ", ";
        check.due(call + "0)", b.best(s, most, how, 0), upper);
        check.due(call + "1)", b.best(s, most, how, 1), lower);
    }

    private static void best() {
        RatioStreams b = bench();
        dueBest(b, 0, 30, 0, 43, 30);
        dueBest(b, 0, 30, 1, 43, 30);
        dueBest(b, 0, 1000000, 2, 43, 30);
        dueBest(b, 0, 29, 1, 10, 7);
        dueBest(b, 0, 29, 2, 33, 23);
        dueBest(b, 0, 1, 1, 1, 1);
        dueBest(b, 0, 1, 2, 2, 1);
        dueBest(b, 0, 1, 0, 1, 1);
        dueBest(b, 1, 100, 0, 140, 99);
        dueBest(b, 1, 100, 1, 140, 99);
        dueBest(b, 1, 100, 2, 99, 70);
        dueBest(b, 1, 98, 1, 41, 29);
        // 665857 / 470832 lies above by what 941664 / 665857 lies below, and a bit more.
        dueBest(b, 1, 1000000, 0, 941664, 665857);
        dueBest(b, 1, 1000000, 2, 665857, 470832);
        b.ratio(1, GREATEST);
        dueBest(b, 5, 1000000, 0, 0, 1);
        dueBest(b, 5, 1000000, 1, 0, 1);
        dueBest(b, 5, 1000000, 2, 1, 1000000);
    }

    private static void bestOfNegative() {
        RatioStreams b = new RatioStreams();
        b.root(0, -1, 2, 1);
        dueBest(b, 0, 5, 0, -7, 5);
        dueBest(b, 0, 5, 1, -3, 2);
        dueBest(b, 0, 5, 2, -7, 5);
        dueBest(b, 0, 1, 0, -1, 1);
        dueBest(b, 0, 1, 1, -2, 1);
        b.ratio(-1, 7);
        dueBest(b, 1, 6, 1, -1, 6);
        dueBest(b, 1, 6, 2, 0, 1);
        dueBest(b, 1, 6, 0, -1, 6);
        dueBest(b, 1, 3, 0, 0, 1);
        b.ratio(-5, 1);
        dueBest(b, 2, 9, 0, -5, 1);
        dueBest(b, 2, 9, 1, -5, 1);
        dueBest(b, 2, 9, 2, -5, 1);
    }

    private static void bestTies() {
        RatioStreams b = new RatioStreams();
        b.ratio(7, 2);
        dueBest(b, 0, 1, 0, 3, 1);
        b.ratio(-7, 2);
        dueBest(b, 1, 1, 0, -4, 1);
        // 1 / 4 is the middle of 0 / 1 and 1 / 2; 3 / 4 that of 1 / 2 and 1 / 1.
        b.ratio(1, 4);
        dueBest(b, 2, 2, 0, 0, 1);
        b.ratio(3, 4);
        dueBest(b, 3, 2, 0, 1, 1);
        b.ratio(249, 1000);
        dueBest(b, 4, 2, 0, 0, 1);
        b.ratio(251, 1000);
        dueBest(b, 5, 2, 0, 1, 2);
    }

    private static void bestRefused() {
        RatioStreams b = bench();
        check.due("no such stream", b.best(5, 0, 9, 9), Check.UNKNOWN);
        check.due("most", b.best(0, 0, 0, 0), Check.OUTSIDE);
        check.due("most", b.best(0, 1000001, 0, 0), Check.OUTSIDE);
        check.due("most", b.best(0, Integer.MIN_VALUE, 0, 0), Check.OUTSIDE);
        check.due("how", b.best(0, 1, 3, 0), Check.OUTSIDE);
        check.due("how", b.best(0, 1, -1, 0), Check.OUTSIDE);
        check.due("what", b.best(0, 1, 0, 2), Check.OUTSIDE);
        check.due("what", b.best(0, 1, 0, -1), Check.OUTSIDE);
        check.due("no PART", b.best(4, 1, 1, 0), Check.ISOPEN);
        // 5 / 3 comes as 1 1 2, and no more is sure.
        b.factor(3, 5);
        b.factor(7, 3);
        b.mix(1, 1);
        check.due("t is 1, 1, 3", b.best(5, 3, 1, 0), Check.ISOPEN);
        check.due("t is 1, 1, 3", b.best(5, 3, 0, 0), Check.ISOPEN);
        dueBest(b, 5, 2, 1, 3, 2);
        dueBest(b, 5, 2, 2, 2, 1);
        dueBest(b, 5, 2, 0, 3, 2);
        b.factor(3, 7);
        b.factor(7, 4);
        b.mix(1, 1);
        check.dueParts(b, 6, 1, 1, 3, Check.ISOPEN);
        dueBest(b, 6, 2, 1, 3, 2);
        check.due("up to its last it is like the middle", b.best(6, 2, 0, 0), Check.ISOPEN);
        b.ratio(GREATEST, 3);
        check.due("the middle is FAR", b.best(7, 2, 0, 0), Check.ISFAR);
        dueBest(b, 7, 2, 1, 333333333333333L, 1);
        dueBest(b, 7, 2, 2, 666666666666667L, 2);
        dueBest(b, 7, 1, 0, 333333333333333L, 1);
        b.ratio(GREATEST, 1);
        check.due("the sum of both is FAR", b.best(8, 1, 0, 0), Check.ISFAR);
        dueBest(b, 8, 1, 1, GREATEST, 1);
        b.ratio(-GREATEST, (GREATEST + 1) / 7);
        check.due("a NEAR number is FAR", b.best(9, 1, 1, 0), Check.ISFAR);
    }

    private static void figureOfRatio() {
        RatioStreams b = new RatioStreams();
        b.ratio(-1, 7);
        long[] due = {-1, 8, 5, 7, 1, 4, 2, 8, 5, 7};
        for (int k = 0; k < due.length; k++) {
            check.due("figure " + k, b.figure(0, 10, k), due[k]);
        }
        check.due("figure 40", b.figure(0, 10, 40), 1);
        b.ratio(35, 36);
        check.due("base 36", b.figure(1, 36, 1), 35);
        check.due("base 36", b.figure(1, 36, 2), 0);
        check.due("base 2", b.figure(1, 2, 1), 1);
        b.ratio(1, GREATEST / 36);
        check.due("36 v is not FAR", b.figure(2, 2, 40), 0);
        check.due("36 v is not FAR", b.figure(2, 10, 14), 3);
        b.ratio(1, GREATEST / 36 + 1);
        check.due("36 v is FAR", b.figure(3, 2, 0), Check.ISFAR);
        b.ratio(-GREATEST, 1);
        check.due("whole", b.figure(4, 10, 0), -GREATEST);
        check.due("first", b.figure(4, 10, 1), 0);
    }

    private static void figureOfOthers() {
        RatioStreams b = new RatioStreams();
        b.root(0, -1, 2, 1);
        // -1.41421356.. is -2 and 0.58578643762690495119..
        long[] due = {-2, 5, 8, 5, 7, 8, 6, 4, 3, 7, 6, 2, 6, 9, 0, 4, 9, 5, 1, 1, 9};
        for (int k = 0; k < due.length; k++) {
            check.due("figure " + k, b.figure(0, 10, k), due[k]);
        }
        check.due("figure 40", b.figure(0, 10, 40), Check.ISOPEN);
        check.due("base 2", b.figure(0, 2, 40), 0);
        b.ratio(1, 1);
        b.row(1000000, 0);
        b.rule(7);
        check.due("whole", b.figure(2, 10, 0), 7);
        // The SPAN is from 7 + 10^6 / (10^12 + 1) to a bit more; both begin 7.00000099999
        check.due("figure 6", b.figure(2, 10, 6), 0);
        check.due("figure 7", b.figure(2, 10, 7), 9);
        b.factor(3, 5);
        b.factor(7, 2);
        b.mix(0, 0);
        // 5 / 2 comes as 2 2, so it is told only that it lies between 5 / 2 and 7 / 3.
        check.dueParts(b, 3, 2, 2, Check.ISOPEN);
        check.due("whole", b.figure(3, 10, 0), 2);
        check.due("strictly between 2.33 and 2.5", b.figure(3, 10, 1), Check.ISOPEN);
        check.due("to the base 2 it is 2.0", b.figure(3, 2, 1), 0);
        check.due("to the base 6 it is 2.2", b.figure(3, 6, 1), 2);
        check.due("but no further", b.figure(3, 6, 2), Check.ISOPEN);
        b.factor(3, 0);
        b.mix(0, 0);
        check.due("one PART", b.told(4, 1), 1);
        check.due("from 0 to 1", b.figure(4, 10, 0), 0);
        check.due("from 0 to 1", b.figure(4, 10, 1), Check.ISOPEN);
        b.factor(7, 0);
        b.mix(0, 0);
        check.due("no PART, no SPAN", b.figure(5, 10, 0), Check.ISOPEN);
    }

    private static void figureByItsSpan() {
        RatioStreams b = new RatioStreams();
        b.root(0, 1, 2, 1);
        b.factor(3, 5);
        b.factor(7, 3);
        b.mix(0, 0);
        // 1 1 2: strictly between 5 / 3 and 7 / 4, which begin 1.2 and 1.3 to the base 4.
        check.due("the upper end is no part of it", b.figure(1, 4, 1), 2);
        check.due("the lower one is not, either", b.figure(1, 3, 1), 2);
        check.due("5 / 3 is 1.2 to the base 3, 7 / 4 1.20..", b.figure(1, 3, 2), 0);
        b.factor(3, 43);
        b.factor(7, 30);
        b.mix(0, 0);
        // 1 2 3 4: strictly between 53 / 37 and 43 / 30, which is 1.(13) to the base 30.
        check.due("the upper end is no part of it", b.figure(2, 30, 1), 12);
        b.row(1000000, 0);
        b.row(1000000, 0);
        b.row(9, 0);
        b.rule(0);
        // t 3 is 9000001000009, but with t 2 it is above 10^13.
        check.due("told by PART 2", b.figure(3, 10, 24), 0);
        check.due("PART 3 would tell it", b.figure(3, 10, 25), Check.ISOPEN);
        check.due("told by PART 2", b.figure(3, 36, 14), 22);
        check.due("PART 3 would tell it", b.figure(3, 36, 15), Check.ISOPEN);
        b.row(1, 0);
        b.rule(0);
        b.ratio(-10000000000000L, 1);
        b.act(0, 4, 5);
        check.due("10^13 in size will do", b.figure(6, 10, 0), -10000000000000L);
        b.ratio(-10000000000001L, 1);
        b.act(0, 4, 7);
        check.due("part 0", b.part(8, 0), -10000000000001L);
        check.due("more will not", b.figure(8, 10, 0), Check.ISOPEN);
    }

    private static void figureRefused() {
        RatioStreams b = bench();
        check.due("no such stream", b.figure(5, 1, 41), Check.UNKNOWN);
        check.due("base", b.figure(0, 1, 0), Check.OUTSIDE);
        check.due("base", b.figure(0, 37, 0), Check.OUTSIDE);
        check.due("k", b.figure(0, 10, -1), Check.OUTSIDE);
        check.due("k", b.figure(4, 10, 41), Check.OUTSIDE);
        b.ratio(10000000000001L, 1);
        b.act(0, 5, 2);
        check.due("made with a whole part above 10^13", b.part(6, 0), 10000000000001L);
        check.due("no SPAN", b.figure(6, 10, 0), Check.ISOPEN);
        b.ratio(9999999999999L, 1);
        b.act(0, 7, 2);
        check.due("up to 10^13", b.figure(8, 10, 0), 9999999999999L);
        b.ratio(10000000000000L, 1);
        b.act(0, 9, 2);
        check.due("the sum is above 10^13", b.figure(10, 10, 0), Check.ISOPEN);
    }

    private static void dueStep(RatioStreams b, int i, long... due) {
        for (int what = 0; what < due.length; what++) {
            check.due("roll(" + i + ", " + what + ")", b.roll(i, what), due[what]);
        }
    }

    private static void roll() {
        RatioStreams b = new RatioStreams();
        b.ratio(3, 2);
        b.row(2, 0);
        b.rule(4);
        int[] eight = {0, 2, 2, 0, 0, 0, 0, 4};
        for (int i = 0; i < 8; i++) {
            b.factor(i, eight[i]);
        }
        b.mix(0, 1);
        // x is 1 2 and ends, y is 4 2 2 2 ..; f is (x + y) / 2, that is 2.957..
        dueStep(b, 0, 0, 1, 1, 1, 0, 1, 0, 2, 0, 0);
        dueStep(b, 1, 1, 4, 5, 1, 1, 0, 2, 0, 0, 0);
        // The CORNERS 7 / 2, 6 / 2, 6 / 2 (and 5 / 2) by lower numbers 2: 2 and 3.
        dueStep(b, 2, 0, 2, 11, 2, 5, 1, 4, 0, 2, 0);
        // That was the last PART of x: it is OUT at once.
        dueStep(b, 3, 2, 0, 0, 0, 11, 2, 0, 0, 4, 0);
        // 13 / 4 and 11 / 4.
        dueStep(b, 4, 1, 2, 0, 0, 24, 11, 0, 0, 8, 4);
        // 35 / 12 and 24 / 8.
        dueStep(b, 5, 1, 2, 0, 0, 59, 24, 0, 0, 20, 8);
        // 83 / 28 and 59 / 20.
        dueStep(b, 6, 4, 2, 0, 0, 20, 8, 0, 0, 19, 8);
        dueStep(b, 7, 4, 1, 0, 0, 19, 8, 0, 0, 1, 0);
        check.due("i", b.roll(-2, 0), Check.OUTSIDE);
        check.due("i", b.roll((int) b.roll(Check.NONE, 0), 0), Check.OUTSIDE);
        check.due("i", b.roll(Integer.MAX_VALUE, 0), Check.OUTSIDE);
        check.due("what", b.roll(0, 10), Check.OUTSIDE);
        check.due("what", b.roll(0, -1), Check.OUTSIDE);
        long takings = 0;
        long givings = 0;
        for (int i = 0; i < b.roll(Check.NONE, 0); i++) {
            long step = b.roll(i, 0);
            takings += step < 2 ? 1 : 0;
            givings += step == 4 ? 1 : 0;
        }
        check.due("TAKINGS", takings, b.told(2, 3));
        check.due("GIVINGS", givings, b.told(2, 1));
    }

    private static void noPartFromZeroBelow() {
        RatioStreams b = new RatioStreams();
        b.root(0, 1, 2, 1);
        b.root(0, 1, 3, 1);
        int[] eight = {0, 0, 0, 1, 0, -2, -2, 8};
        for (int i = 0; i < 8; i++) {
            b.factor(i, eight[i]);
        }
        b.mix(0, 1);
        // 1 by 8 - 2 x - 2 y: behind 1 and 1 the CORNERS are 1 / 0, 1 / 2, 1 / 2, 1 / 4.
        dueStep(b, 1, 1, 1, 1, 0, 0, 0, 4, -2, -2, 0);
        check.due("one of them has 0 below, so it is TAKEN", b.roll(2, 0), 0);
        check.due("part", b.part(2, 0), 0);
        check.due("part", b.part(2, 1), 1);
    }

    private static RatioStreams benchOf(long u, long v, int p0, int next, int... eight) {
        RatioStreams b = new RatioStreams();
        b.ratio(u, v);
        b.row(next, 0);
        b.rule(p0);
        for (int i = 0; i < eight.length; i++) {
            b.factor(i, eight[i]);
        }
        return b;
    }

    private static void outAheadOfGiving() {
        // f is x alone, 1 / 3: with 0 and 3 TAKEN it lies within 1 / 4 .. 1 / 3, but OUT comes ahead of the GIVING.
        RatioStreams b = benchOf(1, 3, 1000, 1000, 0, 1, 0, 0, 0, 0, 0, 1);
        b.mix(0, 1);
        dueStep(b, 1, 1, 1000, 0, 0, 1, 0, 1, 0, 0, 0);
        dueStep(b, 2, 0, 3, 1, 0, 0, 0, 3, 0, 1, 0);
        dueStep(b, 3, 2, 0, 0, 0, 1, 0, 0, 0, 3, 0);
        dueStep(b, 4, 4, 0, 0, 0, 3, 0, 0, 0, 1, 0);
        dueStep(b, 5, 4, 3, 0, 0, 1, 0, 0, 0, 0, 0);
        check.due("then y till c, 1000 times as great each time, would be FAR", b.told(2, 3), 7);
        // The same with y.
        b = benchOf(1, 3, 1000, 1000, 0, 0, 1, 0, 0, 0, 0, 1);
        b.mix(1, 0);
        dueStep(b, 2, 0, 1000, 0, 1000, 0, 1, 1000, 0, 1, 0);
        dueStep(b, 3, 1, 3, 1000, 0, 1, 0, 3000, 1000, 3, 1);
        dueStep(b, 4, 3, 0, 0, 1000, 0, 1, 0, 3000, 0, 3);
        dueStep(b, 5, 4, 0, 0, 3000, 0, 3, 0, 1000, 0, 1);
        dueStep(b, 6, 4, 3, 0, 1000, 0, 1, 0, 0, 0, 0);
    }

    private static void outOfOnePart() {
        RatioStreams b = benchOf(7, 1, 4, 2);
        b.act(0, 0, 1);
        dueStep(b, 0, 0, 7, 1, 7, 0, 1, 0, 1, 0, 0);
        dueStep(b, 1, 2, 0, 0, 0, 1, 7, 0, 0, 0, 1);
        dueStep(b, 2, 1, 4, 0, 0, 11, 1, 0, 0, 1, 0);
        dueStep(b, 3, 1, 2, 0, 0, 23, 11, 0, 0, 2, 1);
        dueStep(b, 4, 4, 11, 0, 0, 2, 1, 0, 0, 1, 0);
        b.act(0, 1, 0);
        dueStep(b, 0, 0, 4, 1, 4, 0, 1, 0, 1, 0, 0);
        dueStep(b, 1, 1, 7, 11, 1, 1, 0, 1, 0, 0, 0);
        dueStep(b, 2, 3, 0, 0, 11, 0, 1, 0, 1, 0, 0);
        dueStep(b, 3, 0, 2, 0, 23, 0, 11, 0, 2, 0, 1);
        dueStep(b, 4, 4, 11, 0, 2, 0, 1, 0, 1, 0, 0);
    }

    private static void outAndFar() {
        RatioStreams b = benchOf(1, GREATEST, 2, 2);
        b.act(0, 0, 1);
        check.due("a last PART that is FAR to TAKE: no OUT", b.roll(Check.NONE, 0), 2);
        check.due("TAKEN", b.told(2, 3), 2);
        // With the last PART TAKEN e + f + g + h is 10^15 and 1, without it 10^15.
        b = benchOf(1, GREATEST, 1, 2);
        b.act(2, 0, 1);
        dueStep(b, 2, 0, GREATEST, 1, 1, 0, 0, GREATEST, 0, 1, 0);
        dueStep(b, 3, 2, 0, 0, 0, 1, 1, 0, 0, GREATEST, 0);
        dueStep(b, 4, 4, 0, 0, 0, GREATEST, 0, 0, 0, 1, 1);
        check.due("steps", b.roll(Check.NONE, 0), 5);
        check.due("TAKEN", b.told(2, 3), 3);
        // The same with y: 3 q is not FAR, 3 q and 3 is.
        long q = 333333333333333L;
        b = benchOf(1, q, 1, 2);
        b.act(2, 1, 0);
        dueStep(b, 3, 1, q, 3, 0, 1, 0, 2 * q, 2, q, 1);
        dueStep(b, 4, 3, 0, 0, 3, 0, 1, 0, 2 * q, 0, q);
        dueStep(b, 5, 4, 0, 0, 2 * q, 0, q, 0, 3, 0, 1);
        check.due("steps", b.roll(Check.NONE, 0), 6);
        check.due("TAKEN", b.told(2, 3), 4);
    }

    private static void outBehindEveryLastPart() {
        for (int u = -20; u <= 20; u++) {
            for (int how = 0; how < 4; how++) {
                RatioStreams b = benchOf(u, 13, u + 3, 5);
                b.act(how, 0, 1);
                outIsBehindLast(b, 0);
                if (how < 3 || u != 0) {
                    b.act(how, 1, 0);
                    outIsBehindLast(b, 1);
                }
            }
        }
    }

    private static void outIsBehindLast(RatioStreams b, int side) {
        long left = b.told(0, 1);
        for (int i = 0; i < b.roll(Check.NONE, 0); i++) {
            boolean isBehind = left == 0;
            check.due("whether step " + i + " is OUT", b.roll(i, 0) == 2 + side ? 1 : 0, isBehind ? 1 : 0);
            if (isBehind || b.roll(i, 0) == side) {
                left--;
            }
        }
        check.due("the last PART was TAKEN, OUT was told", left, -1);
    }

    private static void rollStays() {
        RatioStreams b = bench();
        long steps = b.roll(Check.NONE, 0);
        long last = b.roll((int) steps - 1, 2);
        b.act(0, 0, 0);
        b.ratio(GREATEST, 1);
        check.due("ISFAR", b.act(2, 6, 6), Check.ISFAR);
        b.turn(1);
        b.factor(7, 1);
        b.mix(0, 0);
        b.drop(3);
        b.drop(4);
        check.due("it stays", b.roll(Check.NONE, 0), steps);
        check.due("it stays", b.roll((int) steps - 1, 2), last);
        b.turn(2);
        dueStep(b, 0, 0, 0, 0, 1, 0, 0, 0, 0, 0, 1);
    }

    private static void count() {
        RatioStreams b = bench();
        check.due("STREAMS", b.count(0), 5);
        check.due("ROWS", b.count(1), 0);
        check.due("open ones", b.count(2), 2);
        b.row(1, 1);
        b.row(1, 1);
        check.due("ROWS", b.count(1), 2);
        b.drop(4);
        check.due("STREAMS", b.count(0), 4);
        check.due("open ones", b.count(2), 1);
        check.due("what", b.count(3), Check.OUTSIDE);
        check.due("what", b.count(-1), Check.OUTSIDE);
    }
}
