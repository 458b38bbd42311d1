import java.util.Arrays;
import java.util.Random;

/** Long runs of calls, each answer held against that of the Model. */
public final class ModelTest {
    private static final Check check = new Check("ModelTest");
    private static final String[] CALLS = {
        "ratio", "root", "row", "rule", "act", "turn", "factor", "mix", "drop", "told", "part", "exact",
        "round", "sign", "compare", "near", "best", "figure", "roll", "count"};
    private static final int[] WEIGHTS = {6, 6, 5, 4, 10, 3, 8, 6, 16, 8, 10, 6, 4, 4, 8, 8, 14, 10, 12, 2};
    private static final long[] WILD = {
        0, 1, -1, 2, 9, 10, 36, 37, 40, 41, 59, 60, 61, 1000, 1001, 10000, 10001, 1000000, -1000000, 1000001,
        -1000001, Integer.MAX_VALUE, Integer.MIN_VALUE};
    private static final long GREATEST = 1000000000000000L;
    private static final long[] LARGE = {
        GREATEST, GREATEST - 1, GREATEST + 1, GREATEST / 2, GREATEST / 2 + 1, GREATEST / 4, GREATEST / 36,
        GREATEST / 36 + 1, 1L << 32, 1L << 45, 10000000000000L, 10000000000001L, 9999999999999L, 1000000000,
        1000000001, 999999999, 31622776, 31622777, 10000000, 3162, 3163, Long.MAX_VALUE, Long.MIN_VALUE};

    private final Random random;
    private final RatioStreams bench = new RatioStreams();
    private final Model model = new Model();
    /** How large numbers of this run are, and how often they are wild: runs differ in it. */
    private final int size;
    private final int wildness;

    private ModelTest(long seed) {
        random = new Random(seed);
        size = random.nextInt(16);
        wildness = random.nextInt(3) == 0 ? 8 : 60;
    }

    public static void main(String[] args) {
        int runs = args.length > 0 ? Integer.parseInt(args[0]) : 600;
        for (long seed = 1; seed <= runs && !check.hasWrong(); seed++) {
            new ModelTest(seed).run(seed);
        }
        check.end();
    }

    private void run(long seed) {
        for (int i = 0; i < 512; i++) {
            int call = draw();
            long[] a = arguments(call);
            long due = ofModel(call, a);
            check.due("run " + seed + ", call " + i + ", " + CALLS[call] + Arrays.toString(a), ofBench(call, a), due);
            if (i % 16 == 15) {
                wholeRoll("run " + seed + ", behind call " + i);
            }
        }
        everyPart("run " + seed);
    }

    private void wholeRoll(String where) {
        for (int i = 0; i <= model.roll(-1, 0); i++) {
            for (int what = 0; what < 10; what++) {
                check.due(where + ", roll(" + i + ", " + what + ")", bench.roll(i, what), model.roll(i, what));
            }
        }
    }

    private void everyPart(String where) {
        for (int s = 0; s < 40; s++) {
            for (int k = 0; k <= 60; k++) {
                check.due(where + ", part(" + s + ", " + k + ")", bench.part(s, k), model.part(s, k));
            }
        }
    }

    private int draw() {
        int all = 0;
        for (int w : WEIGHTS) {
            all += w;
        }
        int at = random.nextInt(all);
        int call = 0;
        while (at >= WEIGHTS[call]) {
            at -= WEIGHTS[call];
            call++;
        }
        return call;
    }

    private long any(long from, long to) {
        if (random.nextInt(wildness) == 0) {
            return WILD[random.nextInt(WILD.length)];
        }
        return from + (long) (random.nextDouble() * (to - from + 1));
    }

    private long stream() {
        return any(0, Math.max(0, Math.min(39, bench.count(0) - 1)));
    }

    private long sized(long most) {
        long bound = 1;
        for (int i = random.nextInt(size + 1); i >= 0 && bound < most; i--) {
            bound *= 10;
        }
        return any(-Math.min(bound, most), Math.min(bound, most));
    }

    private long large() {
        long value = LARGE[random.nextInt(LARGE.length)];
        return random.nextInt(3) == 0 ? -value : value;
    }

    private long upper() {
        return random.nextInt(4) == 0 ? large() : sized(GREATEST);
    }

    private long lower() {
        int way = random.nextInt(6);
        return way == 0 ? large() : way < 3 ? 1 : sized(GREATEST);
    }

    private long[] arguments(int call) {
        switch (CALLS[call]) {
            case "ratio":
                return random.nextInt(40) == 0 ? fibonacci() : new long[] {upper(), lower()};
            case "root":
                return new long[] {sized(10000), sized(100), any(0, 1000) % (random.nextBoolean() ? 8 : 1001),
                    random.nextInt(3) == 0 ? 1 : sized(1000)};
            case "row":
                return new long[] {1 + Math.abs(sized(999999)), random.nextInt(2) * Math.abs(sized(1000000))};
            case "rule":
                return new long[] {sized(1000000)};
            case "act":
                return new long[] {any(0, 3), stream(), stream()};
            case "factor":
                return new long[] {any(0, 7), random.nextInt(3) == 0 ? 0 : sized(random.nextBoolean() ? 3 : 1000000)};
            case "mix":
            case "compare":
                return new long[] {stream(), stream()};
            case "turn":
            case "sign":
            case "drop":
                return new long[] {stream()};
            case "told":
                return new long[] {stream(), any(0, 4)};
            case "part":
                return new long[] {stream(), any(0, 62)};
            case "exact":
                return new long[] {stream(), any(0, 3)};
            case "round":
                return new long[] {stream(), any(0, 1)};
            case "near":
                return new long[] {stream(), any(0, random.nextInt(62)), any(0, 1)};
            case "best":
                return new long[] {stream(), any(1, random.nextInt(50) == 0 ? 30000 : 300), any(0, 2), any(0, 1)};
            case "figure":
                return new long[] {stream(), any(2, 36), any(0, random.nextInt(41))};
            case "roll":
                return new long[] {any(-1, Math.max(0, bench.roll(-1, 0))), any(0, 9)};
            default:
                return new long[] {any(0, 2)};
        }
    }

    private long[] fibonacci() {
        long one = 1;
        long two = 1;
        for (int i = random.nextInt(14) + 57; i > 0; i--) {
            long sum = one + two;
            one = two;
            two = sum;
        }
        return random.nextBoolean() ? new long[] {one, two} : new long[] {two, one};
    }

    private long ofBench(int call, long[] a) {
        int x = (int) a[0];
        int y = a.length > 1 ? (int) a[1] : 0;
        int z = a.length > 2 ? (int) a[2] : 0;
        int w = a.length > 3 ? (int) a[3] : 0;
        switch (CALLS[call]) {
            case "ratio": return bench.ratio(a[0], a[1]);
            case "root": return bench.root(x, y, z, w);
            case "row": return bench.row(x, y);
            case "rule": return bench.rule(x);
            case "act": return bench.act(x, y, z);
            case "turn": return bench.turn(x);
            case "factor": return bench.factor(x, y);
            case "mix": return bench.mix(x, y);
            case "drop": return bench.drop(x);
            case "told": return bench.told(x, y);
            case "part": return bench.part(x, y);
            case "exact": return bench.exact(x, y);
            case "round": return bench.round(x, y);
            case "sign": return bench.sign(x);
            case "compare": return bench.compare(x, y);
            case "near": return bench.near(x, y, z);
            case "best": return bench.best(x, y, z, w);
            case "figure": return bench.figure(x, y, z);
            case "roll": return bench.roll(x, y);
            default: return bench.count(x);
        }
    }

    private long ofModel(int call, long[] a) {
        int x = (int) a[0];
        int y = a.length > 1 ? (int) a[1] : 0;
        int z = a.length > 2 ? (int) a[2] : 0;
        int w = a.length > 3 ? (int) a[3] : 0;
        switch (CALLS[call]) {
            case "ratio": return model.ratio(a[0], a[1]);
            case "root": return model.root(x, y, z, w);
            case "row": return model.row(x, y);
            case "rule": return model.rule(x);
            case "act": return model.act(x, y, z);
            case "turn": return model.turn(x);
            case "factor": return model.factor(x, y);
            case "mix": return model.mix(x, y);
            case "drop": return model.drop(x);
            case "told": return model.told(x, y);
            case "part": return model.part(x, y);
            case "exact": return model.exact(x, y);
            case "round": return model.round(x, y);
            case "sign": return model.sign(x);
            case "compare": return model.compare(x, y);
            case "near": return model.near(x, y, z);
            case "best": return model.best(x, y, z, w);
            case "figure": return model.figure(x, y, z);
            case "roll": return model.roll(x, y);
            default: return model.count(x);
        }
    }
}
