import java.math.BigInteger;
import java.util.ArrayList;
import java.util.List;

/**
 * The document, told once more in the slowest and plainest way, with the library's whole numbers:
 * NUMBERS by their definition term by term, need by trying each N, figures one by one.
 */
final class OracleMill {
    private static final int NONE = -6, UNKNOWN = -1, OUTSIDE = -2, STATE = -3, FULL = -4, NO = -5;
    private static final BigInteger ZERO = BigInteger.ZERO, ONE = BigInteger.ONE;

    /** A fraction with a denominator above 0. */
    record Fraction(BigInteger above, BigInteger below) {
        static Fraction of(BigInteger above, BigInteger below) {
            BigInteger g = above.gcd(below);
            BigInteger s = below.signum() < 0 ? g.negate() : g;
            return new Fraction(above.divide(s), below.divide(s));
        }

        static Fraction of(long above, long below) {
            return of(BigInteger.valueOf(above), BigInteger.valueOf(below));
        }

        Fraction plus(Fraction o) {
            return of(above.multiply(o.below).add(o.above.multiply(below)), below.multiply(o.below));
        }

        Fraction times(Fraction o) {
            return of(above.multiply(o.above), below.multiply(o.below));
        }

        Fraction negate() {
            return new Fraction(above.negate(), below);
        }

        Fraction abs() {
            return new Fraction(above.abs(), below);
        }

        BigInteger whole() {
            return above.divide(below);
        }
    }

    record Told(int sign, int sure, long whole, int[] row) {
    }

    record Drawer(int sum, int i, int j, BigInteger[] numbers) {
    }

    private final int[][][] rules = new int[6][4][3];
    private final int[][] bounds = new int[6][];
    private final Drawer[] drawers = new Drawer[8];
    private final List<List<int[]>> constants = new ArrayList<>();
    private Told result;
    private int[] asked;

    OracleMill() {
        for (int i = 0; i < 6; i++) {
            bounds[i] = new int[] {1, 2};
        }
        for (int i = 0; i < 4; i++) {
            constants.add(new ArrayList<>());
        }
    }

    private static boolean in(int x, int least, int most) {
        return x >= least && x <= most;
    }

    private int emptied(int sum) {
        int n = 0;
        for (int i = 0; i < 8; i++) {
            if (drawers[i] != null && drawers[i].sum == sum) {
                drawers[i] = null;
                n++;
            }
        }
        return n;
    }

    int rule(int sum, int which, int c0, int c1, int c2) {
        if (!in(sum, 0, 5)) {
            return UNKNOWN;
        }
        if (!in(which, 0, 3) || !in(c0, -999, 999) || !in(c1, -999, 999) || !in(c2, -999, 999)) {
            return OUTSIDE;
        }
        rules[sum][which] = new int[] {c0, c1, c2};
        return emptied(sum);
    }

    int bound(int sum, int u, int v) {
        if (!in(sum, 0, 5)) {
            return UNKNOWN;
        }
        if (!(1 <= u && u < v && v <= 1000000)) {
            return OUTSIDE;
        }
        bounds[sum] = new int[] {u, v};
        return emptied(sum);
    }

    private BigInteger v(int sum, int which, int k) {
        int[] c = rules[sum][which];
        return k == 0 && which < 2 ? ONE : BigInteger.valueOf(c[0] + c[1] * k + c[2] * k * k);
    }

    int at(int sum, int which, int k) {
        if (!in(sum, 0, 5) || !in(which, 0, 3)) {
            return -1000000001;
        }
        return in(k, 0, 99) ? v(sum, which, k).intValue() : -1000000002;
    }

    private boolean fallsAt(int sum, int k, boolean first) {
        BigInteger p = v(sum, 0, k), q = v(sum, 1, k), a = v(sum, 2, k), b = v(sum, 3, k);
        if (q.signum() == 0 || b.signum() == 0) {
            return true;
        }
        if (first) {
            return false;
        }
        BigInteger left = p.multiply(a).multiply(v(sum, 3, k - 1)).abs()
                .multiply(BigInteger.valueOf(bounds[sum][1]));
        BigInteger right = q.multiply(b).multiply(v(sum, 2, k - 1)).abs()
                .multiply(BigInteger.valueOf(bounds[sum][0]));
        return left.compareTo(right) > 0;
    }

    private int fall(int sum, int i, int from, int j) {
        for (int k = from; k < j; k++) {
            if (fallsAt(sum, k, k == i)) {
                return k;
            }
        }
        return NONE;
    }

    int falls(int sum, int n) {
        if (!in(sum, 0, 5)) {
            return UNKNOWN;
        }
        return in(n, 0, 100) ? fall(sum, 0, 0, n) : OUTSIDE;
    }

    private Drawer ground(int sum, int i, int j) {
        BigInteger[] numbers = {ONE, ONE, ONE, ZERO};
        for (int k = i; k < j; k++) {
            numbers[0] = numbers[0].multiply(v(sum, 0, k));
            numbers[1] = numbers[1].multiply(v(sum, 1, k));
            numbers[2] = numbers[2].multiply(v(sum, 3, k));
            BigInteger term = v(sum, 2, k);
            for (int m = i; m < j; m++) {
                term = term.multiply(v(sum, m <= k ? 0 : 1, m));
                term = m == k ? term : term.multiply(v(sum, 3, m));
            }
            numbers[3] = numbers[3].add(term);
        }
        return new Drawer(sum, i, j, numbers);
    }

    int grind(int drawer, int sum, int i, int j) {
        if (!in(drawer, 0, 7) || !in(sum, 0, 5)) {
            return UNKNOWN;
        }
        if (!(0 <= i && i <= j && j <= 100)) {
            return OUTSIDE;
        }
        int k = fall(sum, i, i, j);
        if (k != NONE) {
            return -100 - k;
        }
        drawers[drawer] = ground(sum, i, j);
        return j - i;
    }

    int more(int drawer, int n) {
        if (!in(drawer, 0, 7)) {
            return UNKNOWN;
        }
        Drawer d = drawers[drawer];
        if (!in(n, 0, 100) || d != null && d.j + n > 100) {
            return OUTSIDE;
        }
        if (d == null) {
            return STATE;
        }
        int k = fall(d.sum, d.i, d.j, d.j + n);
        drawers[drawer] = ground(d.sum, d.i, k == NONE ? d.j + n : k);
        return k == NONE ? d.j + n : -100 - k;
    }

    int join(int d, int e, int f) {
        if (!in(d, 0, 7) || !in(e, 0, 7) || !in(f, 0, 7)) {
            return UNKNOWN;
        }
        Drawer x = drawers[d], y = drawers[e];
        if (x == null || y == null) {
            return STATE;
        }
        if (x.sum != y.sum || x.j != y.i) {
            return NO;
        }
        drawers[f] = ground(x.sum, x.i, y.j);
        return y.j - x.i;
    }

    int empty(int drawer) {
        if (!in(drawer, 0, 7)) {
            return UNKNOWN;
        }
        Drawer d = drawers[drawer];
        drawers[drawer] = null;
        return d == null ? STATE : d.j - d.i;
    }

    int span(int drawer, int what) {
        if (!in(drawer, 0, 7)) {
            return UNKNOWN;
        }
        if (!in(what, 0, 2)) {
            return OUTSIDE;
        }
        Drawer d = drawers[drawer];
        return d == null ? STATE : new int[] {d.sum, d.i, d.j}[what];
    }

    private int refusal(int drawer, int which, boolean inside) {
        if (!in(drawer, 0, 7)) {
            return UNKNOWN;
        }
        if (!in(which, 0, 3) || !inside) {
            return OUTSIDE;
        }
        return drawers[drawer] == null ? STATE : 0;
    }

    int bits(int drawer, int which) {
        int r = refusal(drawer, which, true);
        return r != 0 ? r : drawers[drawer].numbers[which].abs().bitLength();
    }

    int sign(int drawer, int which) {
        int r = refusal(drawer, which, true);
        return r != 0 ? r : (drawers[drawer].numbers[which].signum() + 3) % 3;
    }

    int rest(int drawer, int which, int m) {
        int r = refusal(drawer, which, in(m, 2, 1000000));
        return r != 0 ? r : drawers[drawer].numbers[which].mod(BigInteger.valueOf(m)).intValue();
    }

    int word(int drawer, int which, int k) {
        int r = refusal(drawer, which, k >= 0);
        if (r != 0) {
            return r;
        }
        BigInteger x = drawers[drawer].numbers[which].abs();
        return k > 100000 ? 0 : x.shiftRight(16 * k).intValue() & 0xFFFF;
    }

    int same(int d, int e) {
        if (!in(d, 0, 7) || !in(e, 0, 7)) {
            return UNKNOWN;
        }
        if (drawers[d] == null || drawers[e] == null) {
            return STATE;
        }
        for (int i = 0; i < 4; i++) {
            if (!drawers[d].numbers[i].equals(drawers[e].numbers[i])) {
                return 0;
            }
        }
        return 1;
    }

    int part(int constant, int sum, int m, int n) {
        if (!in(constant, 0, 3) || !in(sum, 0, 5)) {
            return UNKNOWN;
        }
        if (!in(m, -1000000, 1000000) || !in(n, 1, 1000000)) {
            return OUTSIDE;
        }
        List<int[]> parts = constants.get(constant);
        if (parts.size() == 4) {
            return FULL;
        }
        parts.add(new int[] {sum, m, n});
        return parts.size();
    }

    int clear(int constant) {
        if (!in(constant, 0, 3)) {
            return UNKNOWN;
        }
        int n = constants.get(constant).size();
        constants.get(constant).clear();
        return n;
    }

    int told(int constant, int part, int what) {
        if (!in(constant, 0, 3) || !in(part, 0, constants.get(constant).size() - 1)) {
            return -1000000001;
        }
        return in(what, 0, 2) ? constants.get(constant).get(part)[what] : -1000000002;
    }

    private int fallOf(int constant, int terms) {
        for (int[] part : constants.get(constant)) {
            int k = fall(part[0], 0, 0, terms);
            if (k != NONE) {
                return k;
            }
        }
        return NONE;
    }

    private Told tell(int constant, int base, int n, int terms) {
        Fraction x = Fraction.of(0, 1), e = Fraction.of(0, 1);
        for (int[] part : constants.get(constant)) {
            int sum = part[0];
            Fraction factor = Fraction.of(part[1], part[2]);
            Fraction product = Fraction.of(1, 1), term = null;
            for (int k = 0; k < terms; k++) {
                product = product.times(Fraction.of(v(sum, 0, k), v(sum, 1, k)));
                term = product.times(Fraction.of(v(sum, 2, k), v(sum, 3, k)));
                x = x.plus(factor.times(term));
            }
            int u = bounds[sum][0], v = bounds[sum][1];
            e = e.plus(factor.abs().times(term.abs()).times(Fraction.of(u, v - u)));
        }
        Fraction low = x.plus(e.negate()), high = x.plus(e);
        if (low.above.signum() > 0) {
            return tell(low, high, 1, base, n);
        }
        if (high.above.signum() < 0) {
            return tell(high.negate(), low.negate(), -1, base, n);
        }
        return new Told(0, NONE, 0, new int[0]);
    }

    private Told tell(Fraction low, Fraction high, int sign, int base, int n) {
        BigInteger whole = low.whole();
        if (!whole.equals(high.whole()) || whole.bitLength() > 62) {
            return new Told(sign, NONE, 0, new int[0]);
        }
        Fraction radix = Fraction.of(base, 1);
        int[] row = new int[n];
        int sure = 0;
        while (sure < n) {
            low = low.plus(Fraction.of(low.whole().negate(), ONE)).times(radix);
            high = high.plus(Fraction.of(high.whole().negate(), ONE)).times(radix);
            if (!low.whole().equals(high.whole())) {
                break;
            }
            row[sure++] = low.whole().intValueExact();
        }
        return new Told(sign, sure, whole.longValueExact(), row);
    }

    int figures(int constant, int base, int n, int terms) {
        if (!in(constant, 0, 3)) {
            return UNKNOWN;
        }
        if (!in(base, 2, 36) || !in(n, 0, 100) || !in(terms, 1, 100)) {
            return OUTSIDE;
        }
        int k = fallOf(constant, terms);
        if (k != NONE) {
            return -100 - k;
        }
        result = tell(constant, base, n, terms);
        asked = new int[] {constant, base, n, terms, result.sure};
        return result.sure;
    }

    int need(int constant, int base, int n) {
        if (!in(constant, 0, 3)) {
            return UNKNOWN;
        }
        if (!in(base, 2, 36) || !in(n, 0, 100)) {
            return OUTSIDE;
        }
        for (int terms = 1; terms <= 100 && fallOf(constant, terms) == NONE; terms++) {
            if (tell(constant, base, n, terms).sure >= n) {
                return terms;
            }
        }
        return NO;
    }

    int signOf() {
        return result == null ? 0 : result.sign;
    }

    long whole() {
        return result == null ? 0 : result.whole;
    }

    int figure(int i) {
        if (result == null) {
            return NONE;
        }
        return in(i, 1, result.sure) ? result.row[i - 1] : NONE;
    }

    int count(int figure) {
        if (!in(figure, 0, 35)) {
            return OUTSIDE;
        }
        int n = 0;
        for (int i = 1; result != null && i <= result.sure; i++) {
            n += figure(i) == figure ? 1 : 0;
        }
        return n;
    }

    int where(int row, int n) {
        if (!in(n, 1, 5)) {
            return OUTSIDE;
        }
        if (result == null) {
            return NONE;
        }
        for (int place = 1; place + n - 1 <= result.sure; place++) {
            int rest = row;
            boolean here = true;
            for (int i = n - 1; i >= 0; i--) {
                here = here && figure(place + i) == (rest & 31);
                rest >>>= 5;
            }
            if (here) {
                return place;
            }
        }
        return NONE;
    }

    int about(int what) {
        if (!in(what, 0, 4)) {
            return OUTSIDE;
        }
        return result == null ? STATE : asked[what];
    }

    int agree(int c, int d, int base, int n, int terms) {
        if (!in(c, 0, 3) || !in(d, 0, 3)) {
            return UNKNOWN;
        }
        if (!in(base, 2, 36) || !in(n, 0, 100) || !in(terms, 1, 100)) {
            return OUTSIDE;
        }
        for (int constant : new int[] {c, d}) {
            int k = fallOf(constant, terms);
            if (k != NONE) {
                return -100 - k;
            }
        }
        Told x = tell(c, base, n, terms), y = tell(d, base, n, terms);
        if (x.sure == NONE || y.sure == NONE) {
            return NONE;
        }
        if (x.sign != y.sign || x.whole != y.whole) {
            return 0;
        }
        for (int i = 0; i < x.sure && i < y.sure; i++) {
            if (x.row[i] != y.row[i]) {
                return i + 1;
            }
        }
        return NONE;
    }
}
