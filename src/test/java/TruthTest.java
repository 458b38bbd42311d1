import java.math.BigInteger;
import java.util.ArrayList;
import java.util.List;
import java.util.Random;

/**
 * Answers held against the NUMBERS themselves, worked out to 4000 bits without PARTS where there is another way:
 * whatever the steps were, what is told has to be true.
 */
public final class TruthTest {
    private static final Check check = new Check("TruthTest");
    private static final BigInteger ZERO = BigInteger.ZERO;
    private static final BigInteger ONE = BigInteger.ONE;
    private static final int BITS = 4000;
    private static final BigInteger UNIT = ONE.shiftLeft(BITS);
    private static final BigInteger GREATEST = BigInteger.TEN.pow(15);
    /** NUMBERS above, and divisors below one by, 2 to this are not worked out: they would blur what is behind them. */
    private static final int MOST_BITS = 100;
    private static final int BLUR_OF_ONE_ACT = 620;
    private static final int MOST_ACTS = 3;
    private static final int[][] ACTS = {
        {0, 1, 1, 0, 0, 0, 0, 1}, {0, 1, -1, 0, 0, 0, 0, 1}, {1, 0, 0, 0, 0, 0, 0, 1}, {0, 1, 0, 0, 0, 0, 1, 0}};

    /** What a STREAM is due to be, times UNIT; null, where that was not worked out. */
    private final List<BigInteger> numbers = new ArrayList<>();
    private final List<Integer> acts = new ArrayList<>();
    private final RatioStreams b = new RatioStreams();
    private final Random random;
    private final String name;

    private TruthTest(long seed) {
        random = new Random(seed);
        name = "run " + seed + ", ";
        make();
    }

    public static void main(String[] args) {
        int runs = args.length > 0 ? Integer.parseInt(args[0]) : 200;
        for (long seed = 1; seed <= runs && !check.hasWrong(); seed++) {
            // An object is promised for 512 calls, so each question gets a bench of its own.
            new TruthTest(seed).parts();
            new TruthTest(seed).signsAndOrder();
            new TruthTest(seed).figures();
            new TruthTest(seed).bests();
        }
        check.end();
    }

    // ---- making STREAMS and their NUMBERS

    private void make() {
        for (int i = 0; i < 4; i++) {
            int way = random.nextInt(3);
            keep(way == 0 ? ratio() : way == 1 ? root() : rule(), 0);
        }
        for (int i = 0; i < 3; i++) {
            made();
        }
    }

    private void keep(BigInteger number, int howManyActs) {
        boolean known = number != null && number.bitLength() <= BITS + MOST_BITS && howManyActs <= MOST_ACTS;
        numbers.add(known ? number : null);
        acts.add(howManyActs);
    }

    private int sized(int most) {
        int bound = (int) Math.min(most, Math.pow(10, random.nextInt(7)));
        return random.nextInt(2 * bound + 1) - bound;
    }

    private BigInteger ratio() {
        long u = (long) sized(1000000) * (random.nextInt(4) == 0 ? 1 + random.nextInt(1000000) : 1);
        long v = 1 + Math.abs((long) sized(1000000));
        b.ratio(u, v);
        return BigInteger.valueOf(u).shiftLeft(BITS).divide(BigInteger.valueOf(v));
    }

    private BigInteger root() {
        int a = sized(10000);
        int often = sized(100);
        int n = random.nextInt(random.nextBoolean() ? 12 : 1001);
        int d = 1 + Math.abs(sized(999));
        b.root(a, often, n, d);
        BigInteger side = UNIT.multiply(UNIT).multiply(BigInteger.valueOf(n)).sqrt();
        return side.multiply(BigInteger.valueOf(often)).add(UNIT.multiply(BigInteger.valueOf(a)))
            .divide(BigInteger.valueOf(d));
    }

    /** Far more PARTS than are KNOWN. */
    private BigInteger rule() {
        int m = 1 + random.nextInt(8);
        long[][] rows = new long[m][];
        for (int i = 0; i < m; i++) {
            rows[i] = new long[] {1 + Math.abs((long) sized(999999)), random.nextInt(2) * Math.abs((long) sized(1000000))};
            b.row((int) rows[i][0], (int) rows[i][1]);
        }
        int p0 = sized(1000000);
        b.rule(p0);
        BigInteger upper = ONE;
        BigInteger lower = ZERO;
        for (int k = 3000; k >= 0; k--) {
            long p = k == 0 ? p0 : rows[(k - 1) % m][0] + (k - 1) / m * rows[(k - 1) % m][1];
            BigInteger next = upper.multiply(BigInteger.valueOf(p)).add(lower);
            lower = upper;
            upper = next;
            if (lower.bitLength() > 3 * BITS) {
                int over = lower.bitLength() - 3 * BITS;
                upper = upper.shiftRight(over);
                lower = lower.shiftRight(over);
            }
        }
        return upper.shiftLeft(BITS).divide(lower);
    }

    private void made() {
        int x = random.nextInt(numbers.size());
        int y = random.nextInt(numbers.size());
        int way = random.nextInt(6);
        int[] eight = way < 4 ? ACTS[way] : way == 4 ? new int[] {0, 0, 0, 1, 0, 1, 0, 0} : anyEight();
        long s = way < 4 ? b.act(way, x, y) : way == 4 ? b.turn(x) : b.mix(x, y);
        if (s >= 0) {
            keep(worked(eight, numbers.get(x), numbers.get(y)), 1 + Math.max(acts.get(x), acts.get(y)));
        }
    }

    private int[] anyEight() {
        int[] eight = new int[8];
        for (int i = 0; i < 8; i++) {
            eight[i] = random.nextInt(3) == 0 ? 0 : sized(random.nextBoolean() ? 10 : 1000000);
            b.factor(i, eight[i]);
        }
        return eight;
    }

    private static BigInteger worked(int[] eight, BigInteger x, BigInteger y) {
        if (x == null || y == null) {
            return null;
        }
        BigInteger upper = half(eight, 0, x, y);
        BigInteger lower = half(eight, 4, x, y);
        return lower.bitLength() < BITS - MOST_BITS ? null : upper.shiftLeft(BITS).divide(lower);
    }

    private static BigInteger half(int[] eight, int first, BigInteger x, BigInteger y) {
        return x.multiply(y).shiftRight(BITS).multiply(BigInteger.valueOf(eight[first]))
            .add(x.multiply(BigInteger.valueOf(eight[first + 1])))
            .add(y.multiply(BigInteger.valueOf(eight[first + 2])))
            .add(UNIT.multiply(BigInteger.valueOf(eight[first + 3])));
    }

    /** NUMBERS that differ by less may be alike. */
    private BigInteger blur(int s) {
        return ONE.shiftLeft(100 + BLUR_OF_ONE_ACT * acts.get(s));
    }

    private void hold(String what, boolean holds) {
        check.due(name + what + " holds", holds ? 1 : 0, 1);
    }

    // ---- what is told

    /** With each PART more the NUMBER lies between the NEAR number and that of a PART one greater. */
    private void parts() {
        for (int s = 0; s < numbers.size(); s++) {
            BigInteger[] one = {ONE, ZERO};
            BigInteger[] two = {ZERO, ONE};
            boolean far = false;
            int known = (int) b.told(s, 1);
            for (int k = 0; k < known && numbers.get(s) != null; k++) {
                BigInteger p = BigInteger.valueOf(b.part(s, k));
                hold("PART " + k + " of " + s + " above 0", k == 0 || p.signum() > 0);
                BigInteger[] next = {one[0].multiply(p).add(two[0]), one[1].multiply(p).add(two[1])};
                far = far || isFar(one[0].multiply(p)) || isFar(one[1].multiply(p)) || isFar(next[0]) || isFar(next[1]);
                int due = k % 2 == 0 ? 1 : -1;
                int side = against(s, next[0], next[1]);
                int otherSide = against(s, next[0].add(one[0]), next[1].add(one[1]));
                hold("PART " + k + " of " + s, side != -due && otherSide != due);
                if (k == known - 1 || k == 7) {
                    check.due(name + "near " + s + " " + k, b.near(s, k, 0), far ? Check.ISFAR : next[0].longValueExact());
                    check.due(name + "near " + s + " " + k, b.near(s, k, 1), far ? Check.ISFAR : next[1].longValueExact());
                }
                two = one;
                one = next;
            }
        }
    }

    private static boolean isFar(BigInteger value) {
        return value.abs().compareTo(GREATEST) > 0;
    }

    /** How a NUMBER stands to u / v, v not below 0: -1, 1, or 0 if they may be alike. */
    private int against(int s, BigInteger u, BigInteger v) {
        BigInteger apart = numbers.get(s).multiply(v).subtract(u.shiftLeft(BITS));
        return apart.abs().compareTo(blur(s).multiply(v)) <= 0 ? 0 : apart.signum();
    }

    private void signsAndOrder() {
        for (int x = 0; x < numbers.size(); x++) {
            if (numbers.get(x) == null) {
                continue;
            }
            long sign = b.sign(x);
            hold("sign " + x, sign == Check.ISOPEN ? b.told(x, 1) < 2 : sign == against(x, ZERO, ONE));
            for (int y = 0; y < numbers.size(); y++) {
                if (numbers.get(y) != null) {
                    order(x, y);
                }
            }
        }
    }

    private void order(int x, int y) {
        BigInteger apart = numbers.get(x).subtract(numbers.get(y));
        int due = apart.abs().compareTo(blur(x).add(blur(y))) <= 0 ? 0 : apart.signum();
        long told = b.compare(x, y);
        if (told == Check.ISOPEN) {
            int both = (int) Math.min(b.told(x, 1), b.told(y, 1));
            hold("compare " + x + " " + y + " is open", both == 0 || b.part(x, both - 1) == b.part(y, both - 1));
        } else {
            check.due(name + "compare " + x + " " + y, told, due);
        }
    }

    private void figures() {
        for (int s = 0; s < numbers.size(); s++) {
            for (int i = 0; i < 30 && numbers.get(s) != null; i++) {
                int base = 2 + random.nextInt(35);
                int k = random.nextInt(random.nextBoolean() ? 6 : 41);
                long told = b.figure(s, base, k);
                if (told != Check.ISOPEN && told != Check.ISFAR) {
                    BigInteger scale = BigInteger.valueOf(base).pow(k);
                    BigInteger low = numbers.get(s).subtract(blur(s)).multiply(scale).shiftRight(BITS);
                    BigInteger high = numbers.get(s).add(blur(s)).multiply(scale).shiftRight(BITS);
                    hold("figure " + s + " " + base + " " + k,
                        told == figure(low, base, k) || told == figure(high, base, k));
                }
            }
        }
    }

    private static long figure(BigInteger scaled, int base, int k) {
        return (k == 0 ? scaled : scaled.mod(BigInteger.valueOf(base))).longValueExact();
    }

    private void bests() {
        for (int s = 0; s < numbers.size(); s++) {
            for (int i = 0; i < 10 && numbers.get(s) != null; i++) {
                int most = 1 + random.nextInt(random.nextBoolean() ? 6 : 200);
                int how = random.nextInt(3);
                long upper = b.best(s, most, how, 0);
                long lower = b.best(s, most, how, 1);
                if (upper == Check.ISOPEN || upper == Check.ISFAR) {
                    check.due(name + "best " + s + " " + most + " " + how + ", its lower one", lower, upper);
                    continue;
                }
                BigInteger[] due = best(s, most, how);
                check.due(name + "best " + s + " " + most + " " + how, upper, due[0].longValueExact());
                check.due(name + "best " + s + " " + most + " " + how, lower, due[1].longValueExact());
            }
        }
    }

    /** All lower numbers are tried, so the first of those as near is in least terms. */
    private BigInteger[] best(int s, int most, int how) {
        BigInteger[] found = null;
        BigInteger least = null;
        for (int lower = 1; lower <= most; lower++) {
            BigInteger v = BigInteger.valueOf(lower);
            BigInteger below = numbers.get(s).add(blur(s)).multiply(v).shiftRight(BITS);
            for (int more = 0; more < 2; more++) {
                BigInteger u = below.add(BigInteger.valueOf(more));
                int side = against(s, u, v);
                if (how == 1 && side < 0 || how == 2 && side > 0) {
                    continue;
                }
                BigInteger apart = side == 0 ? ZERO
                    : numbers.get(s).subtract(u.shiftLeft(BITS).divide(v)).abs();
                if (least == null || apart.add(blur(s)).compareTo(least) < 0) {
                    least = apart;
                    found = new BigInteger[] {u, v};
                }
            }
        }
        return found;
    }
}
