import java.math.BigInteger;
import java.util.ArrayList;
import java.util.List;
import java.util.TreeMap;

/** The document written a second time, over numbers without a bound and in other ways where there are any. */
final class Model {
    private static final BigInteger ZERO = BigInteger.ZERO;
    private static final BigInteger ONE = BigInteger.ONE;
    private static final BigInteger TWO = BigInteger.TWO;
    private static final BigInteger GREATEST = BigInteger.TEN.pow(15);
    private static final BigInteger SPAN_MOST = BigInteger.TEN.pow(13);

    private static final class Far extends RuntimeException {
        private static final long serialVersionUID = 1;
    }

    private static final class Stream {
        int kind;
        final List<BigInteger> parts = new ArrayList<>();
        boolean ends;
        int taken;
        BigInteger a;
        BigInteger b = ZERO;
        BigInteger n = ZERO;
        BigInteger d;
        final List<BigInteger[]> tails = new ArrayList<>();

        int known() {
            return parts.size();
        }

        boolean isExact() {
            return kind < 2;
        }
    }

    private final TreeMap<Integer, Stream> streams = new TreeMap<>();
    private final List<long[]> rows = new ArrayList<>();
    private final BigInteger[] factors = new BigInteger[8];
    private List<BigInteger[]> roll = new ArrayList<>();

    Model() {
        java.util.Arrays.fill(factors, ZERO);
    }

    // ---- numbers

    private static BigInteger big(long v) {
        return BigInteger.valueOf(v);
    }

    private static BigInteger sure(BigInteger v) {
        if (v.abs().compareTo(GREATEST) > 0) {
            throw new Far();
        }
        return v;
    }

    private static BigInteger mul(BigInteger... all) {
        BigInteger r = sure(all[0]);
        for (int i = 1; i < all.length; i++) {
            r = sure(r.multiply(sure(all[i])));
        }
        return r;
    }

    private static BigInteger sum(BigInteger... all) {
        BigInteger r = sure(all[0]);
        for (int i = 1; i < all.length; i++) {
            r = sure(r.add(sure(all[i])));
        }
        return r;
    }

    private static BigInteger floor(BigInteger u, BigInteger v) {
        BigInteger[] qr = u.divideAndRemainder(v);
        return qr[1].signum() != 0 && qr[1].signum() != v.signum() ? qr[0].subtract(ONE) : qr[0];
    }

    private static BigInteger ceil(BigInteger u, BigInteger v) {
        return floor(u.negate(), v).negate();
    }

    // ---- streams

    private int place(Stream s) {
        int i = 0;
        while (streams.containsKey(i)) {
            i++;
        }
        streams.put(i, s);
        return i;
    }

    private boolean full() {
        return streams.size() == 40;
    }

    private static Stream exactStream(BigInteger a, BigInteger b, BigInteger n, BigInteger d) {
        BigInteger g = a.gcd(b).gcd(d);
        if (d.signum() < 0) {
            g = g.negate();
        }
        Stream s = new Stream();
        s.a = a.divide(g);
        s.b = b.divide(g);
        s.d = d.divide(g);
        if (s.b.signum() == 0) {
            s.kind = 0;
            sure(s.a);
            sure(s.d);
            fillRatio(s);
        } else {
            s.kind = 1;
            s.n = n;
            if (s.d.longValueExact() > 10000 || s.a.abs().compareTo(big(1000000000)) > 0
                || s.b.multiply(s.b).multiply(n).compareTo(big(10000000)) > 0) {
                throw new Far();
            }
            fillRoot(s);
        }
        return s;
    }

    private static void fillRatio(Stream s) {
        BigInteger u = s.a;
        BigInteger v = s.d;
        while (v.signum() != 0 && s.known() < 60) {
            BigInteger q = floor(u, v);
            s.parts.add(q);
            BigInteger rest = u.subtract(q.multiply(v));
            u = v;
            v = rest;
        }
        s.ends = v.signum() == 0;
    }

    /** Tails as (A + B R) / C in least terms; no common number under the root is used. */
    private static void fillRoot(Stream s) {
        BigInteger a = s.a;
        BigInteger b = s.b;
        BigInteger c = s.d;
        for (int k = 0; k <= 60; k++) {
            s.tails.add(new BigInteger[] {a, b, c});
            BigInteger bbn = b.multiply(b).multiply(s.n);
            BigInteger root = bbn.sqrt();
            BigInteger whole = b.signum() > 0 ? a.add(root) : a.subtract(root).subtract(ONE);
            BigInteger q = floor(whole, c);
            if (k < 60) {
                s.parts.add(q);
            }
            BigInteger rest = a.subtract(q.multiply(c));
            BigInteger norm = rest.multiply(rest).subtract(bbn);
            a = c.multiply(rest);
            b = c.multiply(b).negate();
            c = norm;
            BigInteger g = a.gcd(b).gcd(c);
            g = c.signum() < 0 ? g.negate() : g;
            a = a.divide(g);
            b = b.divide(g);
            c = c.divide(g);
        }
    }

    long ratio(long u, long v) {
        if (big(u).abs().compareTo(GREATEST) > 0 || big(v).abs().compareTo(GREATEST) > 0 || v == 0) {
            return Check.OUTSIDE;
        }
        return full() ? Check.FULL : place(exactStream(big(u), ZERO, ZERO, big(v)));
    }

    long root(long a, long b, long n, long d) {
        if (Math.abs(a) > 10000 || Math.abs(b) > 100 || Math.abs(d) > 1000 || d == 0 || n < 0 || n > 1000) {
            return Check.OUTSIDE;
        }
        if (full()) {
            return Check.FULL;
        }
        long inner = n;
        long outer = b;
        for (long p = 2; p <= 31; p++) {
            while (inner != 0 && inner % (p * p) == 0) {
                inner /= p * p;
                outer *= p;
            }
        }
        if (inner == 0 || inner == 1) {
            return place(exactStream(big(a + outer * inner), ZERO, ZERO, big(d)));
        }
        return place(exactStream(big(a), big(outer), big(inner), big(d)));
    }

    long row(long a, long b) {
        if (a < 1 || a > 1000000 || b < 0 || b > 1000000) {
            return Check.OUTSIDE;
        }
        if (rows.size() == 8) {
            return Check.FULL;
        }
        rows.add(new long[] {a, b});
        return rows.size();
    }

    long rule(long p0) {
        if (Math.abs(p0) > 1000000) {
            return Check.OUTSIDE;
        }
        if (rows.isEmpty()) {
            return Check.STATE;
        }
        if (full()) {
            return Check.FULL;
        }
        Stream s = new Stream();
        s.kind = 2;
        s.parts.add(big(p0));
        for (int k = 1; k < 60; k++) {
            long[] r = rows.get((k - 1) % rows.size());
            s.parts.add(big(r[0] + (k - 1) / rows.size() * r[1]));
        }
        rows.clear();
        return place(s);
    }

    private static boolean exactAct(Stream x, Stream y) {
        return x.isExact() && y.isExact() && (x.kind == 0 || y.kind == 0 || x.n.equals(y.n));
    }

    private long actExactly(long how, Stream x, Stream y) {
        BigInteger n = x.kind == 1 ? x.n : y.n;
        try {
            BigInteger a;
            BigInteger b;
            BigInteger d;
            if (how == 0 || how == 1) {
                BigInteger sign = how == 0 ? ONE : ONE.negate();
                a = sum(mul(x.a, y.d), mul(y.a, x.d).multiply(sign));
                b = sum(mul(x.b, y.d), mul(y.b, x.d).multiply(sign));
                d = mul(x.d, y.d);
            } else if (how == 2) {
                a = sum(mul(x.a, y.a), mul(x.b, y.b, n));
                b = sum(mul(x.a, y.b), mul(y.a, x.b));
                d = mul(x.d, y.d);
            } else if (y.kind == 0) {
                a = mul(x.a, y.d);
                b = mul(x.b, y.d);
                d = mul(x.d, y.a);
            } else {
                a = mul(sum(mul(x.a, y.a), mul(x.b, y.b, n).negate()), y.d);
                b = mul(sum(mul(x.b, y.a), mul(x.a, y.b).negate()), y.d);
                d = mul(sum(mul(y.a, y.a), mul(y.b, y.b, n).negate()), x.d);
            }
            return place(exactStream(a, b, n, d));
        } catch (Far far) {
            return Check.ISFAR;
        }
    }

    long act(long how, int x, int y) {
        Stream left = streams.get(x);
        Stream right = streams.get(y);
        if (left == null || right == null) {
            return Check.UNKNOWN;
        }
        if (how < 0 || how > 3) {
            return Check.OUTSIDE;
        }
        if (how == 3 && right.kind == 0 && right.a.signum() == 0) {
            return Check.STATE;
        }
        if (full()) {
            return Check.FULL;
        }
        if (exactAct(left, right)) {
            return actExactly(how, left, right);
        }
        String[] eight = {"0 1 1 0 0 0 0 1", "0 1 -1 0 0 0 0 1", "1 0 0 0 0 0 0 1", "0 1 0 0 0 0 1 0"};
        return place(new Making(left, right, numbers(eight[(int) how])).run());
    }

    long turn(int x) {
        Stream s = streams.get(x);
        if (s == null) {
            return Check.UNKNOWN;
        }
        if (s.kind == 0 && s.a.signum() == 0) {
            return Check.STATE;
        }
        if (full()) {
            return Check.FULL;
        }
        if (s.isExact()) {
            return actExactly(3, exactStream(ONE, ZERO, ZERO, ONE), s);
        }
        return place(new Making(s, s, numbers("0 0 0 1 0 1 0 0")).run());
    }

    private static BigInteger[] numbers(String text) {
        String[] words = text.split(" ");
        BigInteger[] all = new BigInteger[words.length];
        for (int i = 0; i < all.length; i++) {
            all[i] = new BigInteger(words[i]);
        }
        return all;
    }

    long factor(int i, long v) {
        if (i < 0 || i > 7 || Math.abs(v) > 1000000) {
            return Check.OUTSIDE;
        }
        long was = factors[i].longValueExact();
        factors[i] = big(v);
        return was;
    }

    private BigInteger mixedOrNull(int o, Stream x, Stream y) {
        try {
            return sum(mul(factors[o], x.a, y.a), mul(factors[o + 1], x.a, y.d),
                mul(factors[o + 2], y.a, x.d), mul(factors[o + 3], x.d, y.d));
        } catch (Far far) {
            return null;
        }
    }

    long mix(int x, int y) {
        Stream left = streams.get(x);
        Stream right = streams.get(y);
        if (left == null || right == null) {
            return Check.UNKNOWN;
        }
        if (left.kind != 0 || right.kind != 0) {
            return full() ? Check.FULL : place(new Making(left, right, factors.clone()).run());
        }
        BigInteger above = mixedOrNull(0, left, right);
        BigInteger below = mixedOrNull(4, left, right);
        if (below != null && below.signum() == 0) {
            return Check.STATE;
        }
        if (full()) {
            return Check.FULL;
        }
        if (above == null || below == null) {
            return Check.ISFAR;
        }
        return place(exactStream(above, ZERO, ZERO, below));
    }

    /** The work of making one STREAM of two. */
    private final class Making {
        private final Stream x;
        private final Stream y;
        private BigInteger[] v;
        private int fromX = 0;
        private int fromY = 0;
        private boolean outX = false;
        private boolean outY = false;
        private final Stream made = new Stream();
        private final List<BigInteger[]> steps = new ArrayList<>();

        Making(Stream x, Stream y, BigInteger[] eight) {
            this.x = x;
            this.y = y;
            this.v = eight;
            made.kind = 3;
        }

        Stream run() {
            try {
                while (step()) {
                    continue;
                }
            } catch (Far far) {
                made.ends = false;
            }
            made.taken = fromX + fromY;
            roll = steps;
            return made;
        }

        private boolean step() {
            if (outX && outY && v[7].signum() == 0) {
                made.ends = made.known() > 0;
                return false;
            }
            if (made.known() == 60) {
                return false;
            }
            if (!outX && x.ends && fromX == x.known()) {
                keep(new BigInteger[] {ZERO, ZERO, v[0], v[1], ZERO, ZERO, v[4], v[5]}, 2, ZERO);
                outX = true;
                return true;
            }
            if (!outY && y.ends && fromY == y.known()) {
                keep(new BigInteger[] {ZERO, v[0], ZERO, v[2], ZERO, v[4], ZERO, v[6]}, 3, ZERO);
                outY = true;
                return true;
            }
            BigInteger q = fromX > 0 && fromY > 0 ? whatCanBeGiven() : null;
            if (q != null) {
                BigInteger[] w = v.clone();
                for (int i = 0; i < 4; i++) {
                    w[i] = v[i + 4];
                    w[i + 4] = sum(v[i], mul(q, v[i + 4]).negate());
                }
                keep(w, 4, q);
                made.parts.add(q);
                return true;
            }
            if (!outX && (outY || fromX <= fromY)) {
                return takeX();
            }
            return takeY();
        }

        private boolean takeX() {
            if (fromX < x.known()) {
                BigInteger p = x.parts.get(fromX);
                keep(new BigInteger[] {
                    sum(mul(v[0], p), v[2]), sum(mul(v[1], p), v[3]), v[0], v[1],
                    sum(mul(v[4], p), v[6]), sum(mul(v[5], p), v[7]), v[4], v[5]}, 0, p);
                fromX++;
                return true;
            }
            return false;
        }

        private boolean takeY() {
            if (fromY < y.known()) {
                BigInteger p = y.parts.get(fromY);
                keep(new BigInteger[] {
                    sum(mul(v[0], p), v[1]), v[0], sum(mul(v[2], p), v[3]), v[2],
                    sum(mul(v[4], p), v[5]), v[4], sum(mul(v[6], p), v[7]), v[6]}, 1, p);
                fromY++;
                return true;
            }
            return false;
        }

        private void keep(BigInteger[] w, int step, BigInteger part) {
            BigInteger g = ZERO;
            for (BigInteger one : w) {
                g = g.gcd(sure(one));
            }
            BigInteger[] row = new BigInteger[10];
            row[0] = big(step);
            row[1] = part;
            for (int i = 0; i < 8; i++) {
                w[i] = g.signum() == 0 ? w[i] : w[i].divide(g);
                row[i + 2] = w[i];
            }
            v = w;
            steps.add(row);
        }

        private BigInteger[] corners(int o) {
            BigInteger a = v[o];
            BigInteger b = v[o + 1];
            BigInteger c = v[o + 2];
            BigInteger d = v[o + 3];
            if (outX && outY) {
                return new BigInteger[] {d};
            }
            if (outX) {
                return new BigInteger[] {sum(c, d), c};
            }
            if (outY) {
                return new BigInteger[] {sum(b, d), b};
            }
            return new BigInteger[] {sum(a, b, c, d), sum(a, b), sum(a, c), a};
        }

        private BigInteger whatCanBeGiven() {
            BigInteger[] up = corners(0);
            BigInteger[] low = corners(4);
            for (BigInteger l : low) {
                if (l.signum() == 0 || l.signum() != low[0].signum()) {
                    return null;
                }
            }
            BigInteger q = floor(up[0], low[0]);
            for (int i = 0; i < up.length; i++) {
                if (!floor(up[i], low[i]).equals(q)) {
                    return null;
                }
            }
            return q;
        }
    }

    long drop(int s) {
        return streams.remove(s) == null ? Check.UNKNOWN : streams.size();
    }

    // ---- what is told

    private static boolean open(Stream s) {
        return s.kind == 3 && !s.ends && s.known() < 60;
    }

    long told(int s, int what) {
        Stream t = streams.get(s);
        if (t == null) {
            return Check.UNKNOWN;
        }
        if (what < 0 || what > 4) {
            return Check.OUTSIDE;
        }
        return new long[] {t.kind, t.known(), t.ends ? 1 : 0, t.taken, open(t) ? 1 : 0}[what];
    }

    long part(int s, int k) {
        Stream t = streams.get(s);
        if (t == null) {
            return Check.UNKNOWN;
        }
        if (k < 0 || t.ends && k >= t.known()) {
            return Check.OUTSIDE;
        }
        return k < t.known() ? t.parts.get(k).longValueExact() : Check.ISOPEN;
    }

    long exact(int s, int what) {
        Stream t = streams.get(s);
        if (t == null) {
            return Check.UNKNOWN;
        }
        if (what < 0 || what > (t.kind == 0 ? 1 : 3)) {
            return Check.OUTSIDE;
        }
        if (!t.isExact()) {
            return Check.STATE;
        }
        BigInteger[] all = t.kind == 0 ? new BigInteger[] {t.a, t.d} : new BigInteger[] {t.a, t.b, t.n, t.d};
        return all[what].longValueExact();
    }

    long round(int s, int what) {
        Stream t = streams.get(s);
        if (t == null) {
            return Check.UNKNOWN;
        }
        if (what < 0 || what > 1) {
            return Check.OUTSIDE;
        }
        if (t.kind != 1) {
            return Check.STATE;
        }
        for (int i = 0; i <= 60; i++) {
            for (int k = i + 1; k <= 60; k++) {
                if (java.util.Arrays.equals(t.tails.get(i), t.tails.get(k))) {
                    return what == 0 ? i : k - i;
                }
            }
        }
        return Check.ISOPEN;
    }

    long sign(int s) {
        Stream t = streams.get(s);
        if (t == null) {
            return Check.UNKNOWN;
        }
        if (t.known() == 0 || t.known() == 1 && !t.ends && t.parts.get(0).signum() == 0) {
            return Check.ISOPEN;
        }
        return t.parts.get(0).signum() != 0 ? t.parts.get(0).signum() : t.known() > 1 ? 1 : 0;
    }

    long compare(int x, int y) {
        Stream left = streams.get(x);
        Stream right = streams.get(y);
        if (left == null || right == null) {
            return Check.UNKNOWN;
        }
        if (left.kind == 1 && right.kind == 1 && left.a.equals(right.a) && left.b.equals(right.b)
            && left.n.equals(right.n) && left.d.equals(right.d)) {
            return 0;
        }
        return byParts(left, right);
    }

    private static long byParts(Stream left, Stream right) {
        for (int k = 0; ; k++) {
            BigInteger p = partOrEnd(left, k);
            BigInteger q = partOrEnd(right, k);
            if (p == null || q == null) {
                return Check.ISOPEN;
            }
            if (!p.equals(q)) {
                return k % 2 == 0 ? p.compareTo(q) : q.compareTo(p);
            }
            if (k >= left.known() && k >= right.known()) {
                return 0;
            }
        }
    }

    private static BigInteger partOrEnd(Stream s, int k) {
        if (k < s.known()) {
            return s.parts.get(k);
        }
        return s.ends ? BigInteger.TEN.pow(30) : null;
    }

    /** NEAR numbers, with those of -2 and -1 ahead of them; a last null stands for a FAR one. */
    private static List<BigInteger[]> nears(Stream s) {
        List<BigInteger[]> all = new ArrayList<>();
        all.add(new BigInteger[] {ZERO, ONE});
        all.add(new BigInteger[] {ONE, ZERO});
        for (int k = 0; k < s.known(); k++) {
            BigInteger[] one = all.get(k + 1);
            BigInteger[] two = all.get(k);
            try {
                BigInteger p = s.parts.get(k);
                all.add(new BigInteger[] {sum(mul(p, one[0]), two[0]), sum(mul(p, one[1]), two[1])});
            } catch (Far far) {
                all.add(null);
                return all;
            }
        }
        return all;
    }

    long near(int s, int k, int what) {
        Stream t = streams.get(s);
        if (t == null) {
            return Check.UNKNOWN;
        }
        if (k < 0 || t.ends && k >= t.known() || what < 0 || what > 1) {
            return Check.OUTSIDE;
        }
        List<BigInteger[]> all = nears(t);
        for (int i = 0; i <= k; i++) {
            if (i + 2 >= all.size()) {
                return Check.ISOPEN;
            }
            if (all.get(i + 2) == null) {
                return Check.ISFAR;
            }
        }
        return all.get(k + 2)[what].longValueExact();
    }

    long best(int s, long most, int how, int what) {
        Stream t = streams.get(s);
        if (t == null) {
            return Check.UNKNOWN;
        }
        if (most < 1 || most > 1000000 || how < 0 || how > 2 || what < 0 || what > 1) {
            return Check.OUTSIDE;
        }
        List<BigInteger[]> all = nears(t);
        int last = 1;
        boolean above = false;
        while (!above && last + 1 < all.size()) {
            last++;
            if (all.get(last) == null) {
                return Check.ISFAR;
            }
            above = all.get(last)[1].compareTo(big(most)) > 0;
        }
        if (!above && !t.ends) {
            return Check.ISOPEN;
        }
        BigInteger[][] two = bothSides(t, most, all.get(last), all.get(last - 1));
        try {
            BigInteger[] found = how == 0 ? nearest(t, two) : two[how - 1];
            return found == null ? Check.ISOPEN : found[what].longValueExact();
        } catch (Far far) {
            return Check.ISFAR;
        }
    }

    /** Walks down the tree of all ratios, a step at a time. */
    private static BigInteger[][] bothSides(Stream t, long most, BigInteger[] last, BigInteger[] ahead) {
        boolean exactly = t.ends && lastOf(t, last);
        BigInteger[] end = exactly ? last : new BigInteger[] {last[0].add(ahead[0]), last[1].add(ahead[1])};
        BigInteger whole = t.parts.get(0);
        BigInteger[] low = {whole, ONE};
        BigInteger[] high = {whole.add(ONE), ONE};
        if (exactly && t.known() == 1) {
            return new BigInteger[][] {low, low};
        }
        while (low[1].add(high[1]).compareTo(big(most)) <= 0) {
            BigInteger[] middle = {low[0].add(high[0]), low[1].add(high[1])};
            int side = exactly ? cross(last, middle) : cross(last, middle) + cross(end, middle);
            if (exactly && side == 0) {
                return new BigInteger[][] {middle, middle};
            }
            if (side > 0) {
                low = middle;
            } else {
                high = middle;
            }
        }
        return new BigInteger[][] {low, high};
    }

    private static boolean lastOf(Stream t, BigInteger[] near) {
        List<BigInteger[]> all = nears(t);
        return all.get(all.size() - 1) == null ? false : java.util.Arrays.equals(all.get(all.size() - 1), near);
    }

    private static int cross(BigInteger[] x, BigInteger[] y) {
        return x[0].multiply(y[1]).compareTo(y[0].multiply(x[1]));
    }

    private static BigInteger[] nearest(Stream t, BigInteger[][] two) {
        BigInteger[] low = two[0];
        BigInteger[] high = two[1];
        BigInteger upper = sum(mul(low[0], high[1]), mul(high[0], low[1]));
        Stream middle = exactStream(upper, ZERO, ZERO, mul(TWO, low[1], high[1]));
        long side = byParts(t, middle);
        if (side == Check.ISOPEN) {
            return null;
        }
        if (side != 0) {
            return side < 0 ? low : high;
        }
        return high[1].compareTo(low[1]) < 0 ? high : low;
    }

    long figure(int s, int base, int k) {
        Stream t = streams.get(s);
        if (t == null) {
            return Check.UNKNOWN;
        }
        if (base < 2 || base > 36 || k < 0 || k > 40) {
            return Check.OUTSIDE;
        }
        List<BigInteger[]> all = nears(t);
        BigInteger scale = big(base).pow(k);
        if (t.ends) {
            BigInteger[] r = all.get(all.size() - 1);
            if (r == null || r[1].multiply(big(36)).compareTo(GREATEST) > 0) {
                return Check.ISFAR;
            }
            return lastFigure(floor(r[0].multiply(scale), r[1]), base, k);
        }
        int last = 1;
        while (last + 1 < all.size() && spanFits(all, last + 1)) {
            last++;
        }
        if (last == 1) {
            return Check.ISOPEN;
        }
        BigInteger[] one = all.get(last);
        BigInteger[] two = {one[0].add(all.get(last - 1)[0]), one[1].add(all.get(last - 1)[1])};
        BigInteger[] low = cross(one, two) < 0 ? one : two;
        BigInteger[] high = low == one ? two : one;
        BigInteger least = floor(low[0].multiply(scale), low[1]);
        BigInteger most = ceil(high[0].multiply(scale), high[1]).subtract(ONE);
        return least.equals(most) ? lastFigure(least, base, k) : Check.ISOPEN;
    }

    private static boolean spanFits(List<BigInteger[]> all, int at) {
        if (all.get(at) == null) {
            return false;
        }
        for (int i = 0; i < 2; i++) {
            BigInteger v = all.get(at)[i];
            if (v.abs().compareTo(SPAN_MOST) > 0 || v.add(all.get(at - 1)[i]).abs().compareTo(SPAN_MOST) > 0) {
                return false;
            }
        }
        return true;
    }

    private static long lastFigure(BigInteger scaled, int base, int k) {
        return (k == 0 ? scaled : scaled.mod(big(base))).longValueExact();
    }

    long roll(int i, int what) {
        if (i == -1) {
            return roll.size();
        }
        if (i < 0 || i >= roll.size() || what < 0 || what > 9) {
            return Check.OUTSIDE;
        }
        return roll.get(i)[what].longValueExact();
    }

    long count(int what) {
        if (what < 0 || what > 2) {
            return Check.OUTSIDE;
        }
        if (what == 2) {
            return streams.values().stream().filter(Model::open).count();
        }
        return what == 0 ? streams.size() : rows.size();
    }
}
