/**
 * A mill for figures of constants: sums told by rules of polynomials, ground span by span into
 * whole numbers of any length, kept in drawers; constants made of such sums; and their figures in
 * a base, of which just those are told that no term left out could change.
 *
 * <p>All rows are made with the object and used again, so that no call makes anything.
 */
public final class ConstantMill {
    public static final int NONE = -6, UNKNOWN = -1, OUTSIDE = -2, STATE = -3, FULL = -4, NO = -5;

    private static final int SUMS = 6, DRAWERS = 8, CONSTANTS = 4, PARTS = 4, RULES = 4;
    private static final int RULE_P = 0, RULE_Q = 1, RULE_A = 2, RULE_B = 3;
    private static final int MOST_TERMS = 100, MOST_FIGURES = 100, LEAST_BASE = 2, MOST_BASE = 36;
    private static final int MOST_COEFFICIENT = 999, MILLION = 1000000;

    /** What at and told say instead of UNKNOWN and OUTSIDE, which could be values too. */
    private static final int NO_SUCH_VALUE = -1000000001, NO_VALUE_THERE = -1000000002;

    /** Behind this the FALLS are told: the deepest of the other answers is far above it. */
    private static final int FALL = -100;

    /** Limbs of 30 bits: two of them and two carries fit into a long with its sign. */
    private static final int LIMB_BITS = 30, LIMB_MASK = (1 << LIMB_BITS) - 1;

    /**
     * Rooms in limbs. A rule's value has less than 23.3 bits: 100 of them have less than 2330 (78
     * limbs), T and its neighbours less than 4700 (157); four denominators of parts, each with 40
     * bits more, behind them 62 bits of a WHOLE, less than 19000 (634).
     */
    private static final int NARROW = 85, WIDE = 170, VAST = 660;

    private final Sum[] sums = new Sum[SUMS];
    private final Span[] drawers = new Span[DRAWERS];
    private final Constant[] constants = new Constant[CONSTANTS];
    private final Grinder grinder = new Grinder();
    private final Enclosure enclosure = new Enclosure();
    private final Span partSpan = new Span();
    private final Figures result = new Figures();
    private final Figures firstTrial = new Figures();
    private final Figures secondTrial = new Figures();
    private boolean hasResult;

    public ConstantMill() {
        for (int i = 0; i < SUMS; i++) {
            sums[i] = new Sum();
        }
        for (int i = 0; i < DRAWERS; i++) {
            drawers[i] = new Span();
        }
        for (int i = 0; i < CONSTANTS; i++) {
            constants[i] = new Constant();
        }
    }

    // ---- sums

    public int rule(int sum, int which, int c0, int c1, int c2) {
        Sum s = sumAt(sum);
        if (s == null) {
            return UNKNOWN;
        }
        if (!isRule(which) || !isCoefficient(c0) || !isCoefficient(c1) || !isCoefficient(c2)) {
            return OUTSIDE;
        }
        s.setRule(which, c0, c1, c2);
        return emptyDrawersOf(sum);
    }

    public int bound(int sum, int u, int v) {
        Sum s = sumAt(sum);
        if (s == null) {
            return UNKNOWN;
        }
        if (u < 1 || v <= u || v > MILLION) {
            return OUTSIDE;
        }
        s.u = u;
        s.v = v;
        return emptyDrawersOf(sum);
    }

    public int at(int sum, int which, int k) {
        Sum s = sumAt(sum);
        if (s == null || !isRule(which)) {
            return NO_SUCH_VALUE;
        }
        if (k < 0 || k >= MOST_TERMS) {
            return NO_VALUE_THERE;
        }
        return s.value(which, k);
    }

    public int falls(int sum, int n) {
        Sum s = sumAt(sum);
        if (s == null) {
            return UNKNOWN;
        }
        if (n < 0 || n > MOST_TERMS) {
            return OUTSIDE;
        }
        return s.firstFall(0, 0, n);
    }

    // ---- drawers

    public int grind(int drawer, int sum, int i, int j) {
        Span d = drawerAt(drawer);
        Sum s = sumAt(sum);
        if (d == null || s == null) {
            return UNKNOWN;
        }
        if (i < 0 || j < i || j > MOST_TERMS) {
            return OUTSIDE;
        }
        int fall = s.firstFall(i, i, j);
        if (fall != NONE) {
            return FALL - fall;
        }
        d.open(sum, i);
        grinder.goOn(d, s, j);
        return d.terms();
    }

    public int more(int drawer, int n) {
        Span d = drawerAt(drawer);
        if (d == null) {
            return UNKNOWN;
        }
        if (n < 0 || n > MOST_TERMS || d.filled && d.to + n > MOST_TERMS) {
            return OUTSIDE;
        }
        Sum s = sumAt(d.sum);
        if (!d.filled || s == null) {
            return STATE;
        }
        int end = d.to + n;
        int fall = s.firstFall(d.from, d.to, end);
        grinder.goOn(d, s, fall == NONE ? end : fall);
        return fall == NONE ? d.to : FALL - fall;
    }

    public int join(int d, int e, int f) {
        Span ahead = drawerAt(d);
        Span behind = drawerAt(e);
        Span both = drawerAt(f);
        if (ahead == null || behind == null || both == null) {
            return UNKNOWN;
        }
        if (!ahead.filled || !behind.filled) {
            return STATE;
        }
        if (ahead.sum != behind.sum || ahead.to != behind.from) {
            return NO;
        }
        grinder.putTogether(ahead, behind, both);
        return both.terms();
    }

    public int empty(int drawer) {
        Span d = drawerAt(drawer);
        if (d == null) {
            return UNKNOWN;
        }
        if (!d.filled) {
            return STATE;
        }
        d.filled = false;
        return d.terms();
    }

    public int span(int drawer, int what) {
        Span d = drawerAt(drawer);
        if (d == null) {
            return UNKNOWN;
        }
        if (what < 0 || what > 2) {
            return OUTSIDE;
        }
        if (!d.filled) {
            return STATE;
        }
        return what == 0 ? d.sum : what == 1 ? d.from : d.to;
    }

    public int bits(int drawer, int which) {
        int refusal = refusalOfNumber(drawer, which, true);
        Big number = numberAt(drawer, which);
        return refusal != 0 || number == null ? refusal : number.bitLength();
    }

    public int sign(int drawer, int which) {
        int refusal = refusalOfNumber(drawer, which, true);
        Big number = numberAt(drawer, which);
        if (refusal != 0 || number == null) {
            return refusal;
        }
        return number.size == 0 ? 0 : number.below ? 2 : 1;
    }

    public int rest(int drawer, int which, int m) {
        int refusal = refusalOfNumber(drawer, which, m >= 2 && m <= MILLION);
        Big number = numberAt(drawer, which);
        return refusal != 0 || number == null ? refusal : number.modulo(m);
    }

    public int word(int drawer, int which, int k) {
        int refusal = refusalOfNumber(drawer, which, k >= 0);
        Big number = numberAt(drawer, which);
        return refusal != 0 || number == null ? refusal : number.sixteenBits(k);
    }

    public int same(int d, int e) {
        Span one = drawerAt(d);
        Span two = drawerAt(e);
        if (one == null || two == null) {
            return UNKNOWN;
        }
        if (!one.filled || !two.filled) {
            return STATE;
        }
        return one.hasNumbersOf(two) ? 1 : 0;
    }

    // ---- constants

    public int part(int constant, int sum, int m, int n) {
        Constant c = constantAt(constant);
        if (c == null || sumAt(sum) == null) {
            return UNKNOWN;
        }
        if (m < -MILLION || m > MILLION || n < 1 || n > MILLION) {
            return OUTSIDE;
        }
        return c.addPart(sum, m, n) ? c.parts : FULL;
    }

    public int clear(int constant) {
        Constant c = constantAt(constant);
        if (c == null) {
            return UNKNOWN;
        }
        int parts = c.parts;
        c.parts = 0;
        return parts;
    }

    public int told(int constant, int part, int what) {
        Constant c = constantAt(constant);
        if (c == null || part < 0 || part >= c.parts) {
            return NO_SUCH_VALUE;
        }
        if (what < 0 || what > 2) {
            return NO_VALUE_THERE;
        }
        return what == 0 ? c.sumOf[part] : what == 1 ? c.above[part] : c.below[part];
    }

    public int figures(int constant, int base, int n, int terms) {
        Constant c = constantAt(constant);
        if (c == null) {
            return UNKNOWN;
        }
        if (!areFigures(base, n) || !areTerms(terms)) {
            return OUTSIDE;
        }
        int fall = firstFallOf(c, terms);
        if (fall != NONE) {
            return FALL - fall;
        }
        tell(c, base, n, terms, result);
        result.constant = constant;
        hasResult = true;
        return result.sure;
    }

    public int need(int constant, int base, int n) {
        Constant c = constantAt(constant);
        if (c == null) {
            return UNKNOWN;
        }
        if (!areFigures(base, n)) {
            return OUTSIDE;
        }
        int most = mostTermsOf(c);
        int least = 1;
        int beyond = most + 1;
        // Each TERM more, if the SUMS do not fall, puts LOW to HIGH into the LOW to HIGH before it,
        // so what is SURE stays SURE: halving finds the least N, within 101 in 7 steps.
        for (int step = 0; least < beyond && step < 8; step++) {
            int middle = (least + beyond) / 2;
            tell(c, base, n, middle, firstTrial);
            if (firstTrial.sure >= n) {
                beyond = middle;
            } else {
                least = middle + 1;
            }
        }
        return least <= most ? least : NO;
    }

    // ---- the result; 0 without it

    public int signOf() {
        return result.sign;
    }

    public long whole() {
        return result.whole;
    }

    public int figure(int i) {
        return result.behindPoint(i);
    }

    public int count(int figure) {
        if (figure < 0 || figure >= MOST_BASE) {
            return OUTSIDE;
        }
        return result.howOften(figure);
    }

    public int where(int row, int n) {
        if (n < 1 || n > 5) {
            return OUTSIDE;
        }
        return result.placeOf(row, n);
    }

    public int about(int what) {
        if (what < 0 || what > 4) {
            return OUTSIDE;
        }
        if (!hasResult) {
            return STATE;
        }
        switch (what) {
            case 0:
                return result.constant;
            case 1:
                return result.base;
            case 2:
                return result.most;
            case 3:
                return result.terms;
            default:
                return result.sure;
        }
    }

    public int agree(int c, int d, int base, int n, int terms) {
        Constant one = constantAt(c);
        Constant two = constantAt(d);
        if (one == null || two == null) {
            return UNKNOWN;
        }
        if (!areFigures(base, n) || !areTerms(terms)) {
            return OUTSIDE;
        }
        int fall = firstFallOf(one, terms);
        if (fall == NONE) {
            fall = firstFallOf(two, terms);
        }
        if (fall != NONE) {
            return FALL - fall;
        }
        tell(one, base, n, terms, firstTrial);
        tell(two, base, n, terms, secondTrial);
        return firstTrial.firstDifference(secondTrial);
    }

    // ---- what the calls share

    private Sum sumAt(int sum) {
        return sum < 0 || sum >= sums.length ? null : sums[sum];
    }

    private Span drawerAt(int drawer) {
        return drawer < 0 || drawer >= drawers.length ? null : drawers[drawer];
    }

    private Constant constantAt(int constant) {
        return constant < 0 || constant >= constants.length ? null : constants[constant];
    }

    private static boolean isRule(int which) {
        return which >= 0 && which < RULES;
    }

    private static boolean isCoefficient(int c) {
        return c >= -MOST_COEFFICIENT && c <= MOST_COEFFICIENT;
    }

    private static boolean areFigures(int base, int n) {
        return base >= LEAST_BASE && base <= MOST_BASE && n >= 0 && n <= MOST_FIGURES;
    }

    private static boolean areTerms(int terms) {
        return terms >= 1 && terms <= MOST_TERMS;
    }

    private int emptyDrawersOf(int sum) {
        int emptied = 0;
        for (Span d : drawers) {
            if (d != null && d.filled && d.sum == sum) {
                d.filled = false;
                emptied++;
            }
        }
        return emptied;
    }

    /**
     * What a call for a NUMBER answers instead of it; 0, if nothing speaks against it: neither the
     * DRAWER, nor which, nor the call's other argument, of which is told whether it is inside.
     */
    private int refusalOfNumber(int drawer, int which, boolean otherInside) {
        Span d = drawerAt(drawer);
        if (d == null) {
            return UNKNOWN;
        }
        if (d.number(which) == null || !otherInside) {
            return OUTSIDE;
        }
        return d.filled ? 0 : STATE;
    }

    private Big numberAt(int drawer, int which) {
        Span d = drawerAt(drawer);
        return d == null ? null : d.number(which);
    }

    private int firstFallOf(Constant c, int terms) {
        for (int i = 0; i < c.parts && i < PARTS; i++) {
            Sum s = sumAt(c.sumOf[i]);
            int fall = s == null ? NONE : s.firstFall(0, 0, terms);
            if (fall != NONE) {
                return fall;
            }
        }
        return NONE;
    }

    /** The most N with which no SUM of a CONSTANT FALLS, 100 at most. */
    private int mostTermsOf(Constant c) {
        int most = MOST_TERMS;
        for (int i = 0; i < c.parts && i < PARTS; i++) {
            Sum s = sumAt(c.sumOf[i]);
            int fall = s == null ? NONE : s.firstFall(0, 0, most);
            if (fall != NONE) {
                most = fall;
            }
        }
        return most;
    }

    private void tell(Constant c, int base, int n, int terms, Figures into) {
        into.base = base;
        into.most = n;
        into.terms = terms;
        enclosure.open();
        for (int i = 0; i < c.parts && i < PARTS; i++) {
            enclosePart(c.sumOf[i], c.above[i], c.below[i], terms);
        }
        enclosure.read(into);
    }

    /**
     * Puts X and E of a part upon n B Q (v - u): X is then m T (v - u), and E what the last TERM
     * put into T, |m| u times; B has that TERM's b in it.
     */
    private void enclosePart(int sum, int m, int n, int terms) {
        Sum s = sumAt(sum);
        if (s == null) {
            return;
        }
        partSpan.open(sum, 0);
        grinder.goOn(partSpan, s, terms);
        Big low = partSpan.t;
        low.times(m);
        low.times(s.v - s.u);
        Big e = grinder.addend;
        e.times(m);
        e.times(s.u);
        e.below = false;
        Big under = grinder.first;
        under.product(partSpan.q, partSpan.b);
        under.times(n);
        under.times(s.v - s.u);
        if (under.below) {
            under.below = false;
            low.negate();
        }
        Big high = grinder.second;
        high.copy(low);
        high.plus(e);
        e.negate();
        low.plus(e);
        enclosure.add(low, high, under);
    }

    /** The four RULES and the BOUND of a SUM. */
    private static final class Sum {
        private final int[] c0 = new int[RULES];
        private final int[] c1 = new int[RULES];
        private final int[] c2 = new int[RULES];
        private int u = 1;
        private int v = 2;

        void setRule(int which, int constant, int linear, int square) {
            if (isRule(which)) {
                c0[which] = constant;
                c1[which] = linear;
                c2[which] = square;
            }
        }

        int value(int which, int k) {
            if (!isRule(which)) {
                return 0;
            }
            if (k == 0 && which <= RULE_Q) {
                return 1;
            }
            return c0[which] + k * (c1[which] + k * c2[which]);
        }

        /** The least k of from to end - 1 at which a SPAN that begins with start FALLS; NONE. */
        int firstFall(int start, int from, int end) {
            for (int k = from; k < end; k++) {
                if (value(RULE_Q, k) == 0 || value(RULE_B, k) == 0) {
                    return k;
                }
                if (k > start && outgrowsBound(k)) {
                    return k;
                }
            }
            return NONE;
        }

        private boolean outgrowsBound(int k) {
            long x = Math.abs((long) value(RULE_P, k) * value(RULE_A, k));
            long y = Math.abs((long) value(RULE_B, k - 1) * v);
            long z = Math.abs((long) value(RULE_Q, k) * value(RULE_B, k));
            long w = Math.abs((long) value(RULE_A, k - 1) * u);
            long over = upper(x, y) - upper(z, w);
            return over > 0 || over == 0 && lower(x, y) > lower(z, w);
        }

        /** x y, shifted down by a limb: the product itself may have 90 bits. */
        private static long upper(long x, long y) {
            long xHigh = x >> LIMB_BITS;
            long yHigh = y >> LIMB_BITS;
            long xLow = x & LIMB_MASK;
            long yLow = y & LIMB_MASK;
            return (xHigh * yHigh << LIMB_BITS) + xHigh * yLow + xLow * yHigh
                    + (xLow * yLow >> LIMB_BITS);
        }

        private static long lower(long x, long y) {
            return x * y & LIMB_MASK;
        }
    }

    /** A DRAWER: nothing, or a SPAN of a SUM with its NUMBERS. */
    private static final class Span {
        private final Big p = new Big(NARROW);
        private final Big q = new Big(NARROW);
        private final Big b = new Big(NARROW);
        private final Big t = new Big(WIDE);
        private boolean filled;
        private int sum;
        private int from;
        private int to;

        void open(int ofSum, int start) {
            filled = true;
            sum = ofSum;
            from = start;
            to = start;
            p.put(1);
            q.put(1);
            b.put(1);
            t.put(0);
        }

        int terms() {
            return to - from;
        }

        Big number(int which) {
            switch (which) {
                case 0:
                    return p;
                case 1:
                    return q;
                case 2:
                    return b;
                case 3:
                    return t;
                default:
                    return null;
            }
        }

        boolean hasNumbersOf(Span other) {
            return p.isLike(other.p) && q.isLike(other.q) && b.isLike(other.b)
                    && t.isLike(other.t);
        }
    }

    /** Lets SPANS grow, with rows of its own; addend keeps what the latest TERM put into T. */
    private static final class Grinder {
        private final Big ahead = new Big(WIDE);
        private final Big addend = new Big(WIDE);
        private final Big first = new Big(WIDE);
        private final Big second = new Big(WIDE);

        void goOn(Span span, Sum sum, int end) {
            // P times B of what is there is kept along, for a product of two long numbers at each
            // TERM would be dearer than all the rest.
            ahead.product(span.p, span.b);
            for (int k = span.to; k < end; k++) {
                int p = sum.value(RULE_P, k);
                int q = sum.value(RULE_Q, k);
                int b = sum.value(RULE_B, k);
                ahead.times(p);
                addend.copy(ahead);
                addend.times(sum.value(RULE_A, k));
                ahead.times(b);
                span.t.times(q);
                span.t.times(b);
                span.t.plus(addend);
                span.p.times(p);
                span.q.times(q);
                span.b.times(b);
                span.to = k + 1;
            }
        }

        /** T = T Q' B' + T' P B; all is read before both, which may be one of them, is written. */
        void putTogether(Span front, Span back, Span both) {
            ahead.product(back.q, back.b);
            first.product(front.t, ahead);
            ahead.product(front.p, front.b);
            second.product(back.t, ahead);
            first.plus(second);
            multiplyInto(front.p, back.p, both.p);
            multiplyInto(front.q, back.q, both.q);
            multiplyInto(front.b, back.b, both.b);
            both.t.copy(first);
            int start = front.from;
            int end = back.to;
            both.filled = true;
            both.sum = front.sum;
            both.from = start;
            both.to = end;
        }

        private void multiplyInto(Big x, Big y, Big into) {
            addend.product(x, y);
            into.copy(addend);
        }
    }

    /** A CONSTANT: up to four parts, each a SUM and a factor above / below. */
    private static final class Constant {
        private final int[] sumOf = new int[PARTS];
        private final int[] above = new int[PARTS];
        private final int[] below = new int[PARTS];
        private int parts;

        boolean addPart(int sum, int m, int n) {
            if (parts < 0 || parts >= PARTS) {
                return false;
            }
            sumOf[parts] = sum;
            above[parts] = m;
            below[parts] = n;
            parts++;
            return true;
        }
    }

    /**
     * What is SURE of a CONSTANT in a base. As it is made nothing is SURE, SIGN and WHOLE are 0:
     * so the calls of the result need not ask whether there is one, but for about.
     */
    private static final class Figures {
        private final int[] row = new int[MOST_FIGURES];
        private int constant;
        private int base = LEAST_BASE;
        private int most;
        private int terms;
        private int sign;
        private int sure = NONE;
        private long whole;

        int behindPoint(int i) {
            return i < 1 || i > sure || i > row.length ? NONE : row[i - 1];
        }

        int howOften(int figure) {
            int often = 0;
            for (int i = 1; i <= sure; i++) {
                if (behindPoint(i) == figure) {
                    often++;
                }
            }
            return often;
        }

        int placeOf(int wanted, int n) {
            for (int place = 1; place + n - 1 <= sure; place++) {
                if (comesAt(place, wanted, n)) {
                    return place;
                }
            }
            return NONE;
        }

        private boolean comesAt(int place, int wanted, int n) {
            for (int i = 0; i < n; i++) {
                int figure = wanted >> 5 * (n - 1 - i) & 31;
                if (behindPoint(place + i) != figure) {
                    return false;
                }
            }
            return true;
        }

        int firstDifference(Figures other) {
            if (sure == NONE || other.sure == NONE) {
                return NONE;
            }
            if (sign != other.sign || whole != other.whole) {
                return 0;
            }
            int shared = Math.min(sure, other.sure);
            for (int i = 1; i <= shared; i++) {
                if (behindPoint(i) != other.behindPoint(i)) {
                    return i;
                }
            }
            return NONE;
        }

        /** Takes the next figures, put together as one number; as many as both have the same. */
        boolean take(int figuresOfLow, int figuresOfHigh, int highestWeight) {
            int low = figuresOfLow;
            int high = figuresOfHigh;
            if (base < LEAST_BASE) {
                return false;
            }
            for (int weight = highestWeight; weight >= 1; weight /= base) {
                int figure = low / weight;
                if (figure != high / weight || sure < 0 || sure >= row.length) {
                    return false;
                }
                row[sure] = figure;
                sure++;
                low -= figure * weight;
                high -= figure * weight;
            }
            return true;
        }
    }

    /** LOW and HIGH of a CONSTANT, upon one denominator, which is above 0. */
    private static final class Enclosure {
        private final Big low = new Big(VAST);
        private final Big high = new Big(VAST);
        private final Big under = new Big(VAST);
        private final Big spare = new Big(VAST);

        void open() {
            low.put(0);
            high.put(0);
            under.put(1);
        }

        void add(Big partLow, Big partHigh, Big partUnder) {
            addUpon(low, partLow, partUnder);
            addUpon(high, partHigh, partUnder);
            spare.product(under, partUnder);
            under.copy(spare);
        }

        private void addUpon(Big sum, Big partAbove, Big partUnder) {
            spare.product(sum, partUnder);
            sum.product(partAbove, under);
            sum.plus(spare);
        }

        /** Tells what is SURE of them; they are used up by it. */
        void read(Figures into) {
            boolean above = low.size > 0 && !low.below;
            boolean beneath = high.size > 0 && high.below;
            into.sign = above ? 1 : beneath ? -1 : 0;
            into.sure = NONE;
            into.whole = 0;
            if (into.sign == 0) {
                return;
            }
            low.below = false;
            high.below = false;
            Big lesser = above ? low : high;
            Big greater = above ? high : low;
            scale();
            if (greater.compareSizes(under) < 0 && readWhole(lesser, greater, into)) {
                readFigures(lesser, greater, into);
            }
        }

        /**
         * Makes the denominator 2 to the 62 times as large, so that a WHOLE below that is figures
         * behind the point too, and lets it fill its highest limb, as a quotient's guess needs it.
         */
        private void scale() {
            under.times(1 << LIMB_BITS);
            under.times(1 << LIMB_BITS);
            under.times(1 << 2);
            int free = LIMB_BITS * under.size - under.bitLength();
            under.times(1 << free);
            low.times(1 << free);
            high.times(1 << free);
        }

        private boolean readWhole(Big lesser, Big greater, Figures into) {
            long whole = 0;
            int shift = LIMB_BITS;
            for (int i = 0; i < 3; i++) {
                int ofLesser = lesser.takeQuotient(1 << shift, under);
                int ofGreater = greater.takeQuotient(1 << shift, under);
                if (ofLesser != ofGreater) {
                    return false;
                }
                whole = (whole << shift) + ofLesser;
                shift = i == 0 ? LIMB_BITS : 2;
            }
            into.whole = whole;
            into.sure = 0;
            return true;
        }

        private void readFigures(Big lesser, Big greater, Figures into) {
            boolean same = true;
            for (int step = 0; same && into.sure < into.most && step < MOST_FIGURES; step++) {
                // As many figures at once as one limb holds.
                int weight = 1;
                for (int i = into.sure + 1; i < into.most; i++) {
                    if ((long) weight * into.base * into.base > 1 << LIMB_BITS) {
                        break;
                    }
                    weight *= into.base;
                }
                int ofLesser = lesser.takeQuotient(weight * into.base, under);
                int ofGreater = greater.takeQuotient(weight * into.base, under);
                same = into.take(ofLesser, ofGreater, weight);
            }
        }
    }

    /** A whole number with a sign, in a row of limbs, the lowest first, that is made once. */
    private static final class Big {
        private final int[] limbs;
        private int size;
        private boolean below;

        Big(int room) {
            limbs = new int[room < 1 ? 1 : room];
        }

        /** Takes a number from 0 to a limb's most. */
        void put(int value) {
            limbs[0] = value;
            size = value == 0 ? 0 : 1;
            below = false;
        }

        void copy(Big other) {
            int end = Math.min(other.size, limbs.length);
            for (int i = 0; i < end; i++) {
                limbs[i] = other.limbs[i];
            }
            size = end;
            below = other.below;
        }

        void negate() {
            below = size > 0 && !below;
        }

        /** Takes a factor of 2 to the 30 at most, without its sign. */
        void times(int factor) {
            if (factor == 0) {
                put(0);
                return;
            }
            if (factor < 0) {
                negate();
            }
            if (factor == 1 || factor == -1) {
                return;
            }
            long by = Math.abs((long) factor);
            long carry = 0;
            for (int i = 0; i < size; i++) {
                long limb = limbs[i] * by + carry;
                limbs[i] = (int) (limb & LIMB_MASK);
                carry = limb >> LIMB_BITS;
            }
            append((int) carry);
        }

        private void append(int carry) {
            if (carry != 0 && size < limbs.length) {
                limbs[size] = carry;
                size++;
            }
        }

        private void trim() {
            while (size > 0 && limbs[size - 1] == 0) {
                size--;
            }
            below = below && size > 0;
        }

        void plus(Big other) {
            if (size == 0) {
                copy(other);
            } else if (below == other.below) {
                addSize(other);
            } else if (compareSizes(other) >= 0) {
                putDifference(this, other);
            } else {
                below = other.below;
                putDifference(other, this);
            }
            trim();
        }

        private void addSize(Big other) {
            int end = Math.min(Math.max(size, other.size), limbs.length);
            int carry = 0;
            for (int i = 0; i < end; i++) {
                int limb = carry;
                limb += i < size ? limbs[i] : 0;
                limb += i < other.size ? other.limbs[i] : 0;
                limbs[i] = limb & LIMB_MASK;
                carry = limb >>> LIMB_BITS;
            }
            size = end;
            append(carry);
        }

        /** Takes x less y, without signs, x being the larger one; either may be this number. */
        private void putDifference(Big x, Big y) {
            int end = Math.min(x.size, limbs.length);
            int lesserEnd = y.size;
            int borrow = 0;
            for (int i = 0; i < end; i++) {
                int limb = x.limbs[i] + borrow - (i < lesserEnd ? y.limbs[i] : 0);
                limbs[i] = limb & LIMB_MASK;
                borrow = limb >> LIMB_BITS;
            }
            size = end;
        }

        /** Takes x y; neither may be this number. */
        void product(Big x, Big y) {
            put(0);
            int end = x.size + y.size;
            if (x.size == 0 || y.size == 0 || end > limbs.length) {
                return;
            }
            for (int i = 0; i < end; i++) {
                limbs[i] = 0;
            }
            for (int i = 0; i < x.size; i++) {
                long by = x.limbs[i];
                long carry = 0;
                for (int j = 0; j < y.size; j++) {
                    long limb = by * y.limbs[j] + limbs[i + j] + carry;
                    limbs[i + j] = (int) (limb & LIMB_MASK);
                    carry = limb >> LIMB_BITS;
                }
                limbs[i + y.size] = (int) carry;
            }
            size = end;
            below = x.below != y.below;
            trim();
        }

        /** Compares without the signs. */
        int compareSizes(Big other) {
            if (size != other.size) {
                return size < other.size ? -1 : 1;
            }
            for (int i = size - 1; i >= 0; i--) {
                if (limbs[i] != other.limbs[i]) {
                    return limbs[i] < other.limbs[i] ? -1 : 1;
                }
            }
            return 0;
        }

        boolean isLike(Big other) {
            return below == other.below && compareSizes(other) == 0;
        }

        int bitLength() {
            int length = LIMB_BITS * size;
            if (size == 0) {
                return length;
            }
            for (int bit = LIMB_BITS - 1; bit > 0 && limbs[size - 1] >> bit == 0; bit--) {
                length--;
            }
            return length;
        }

        int modulo(int m) {
            if (m < 1) {
                return 0;
            }
            long left = 0;
            for (int i = size - 1; i >= 0; i--) {
                left = ((left << LIMB_BITS) + limbs[i]) % m;
            }
            return (int) (below && left > 0 ? m - left : left);
        }

        int sixteenBits(int k) {
            long bit = 16L * k;
            long place = bit / LIMB_BITS;
            int shift = (int) (bit % LIMB_BITS);
            if (place < 0 || place >= size) {
                return 0;
            }
            int i = (int) place;
            long pair = limbs[i] + (i + 1 < size ? (long) limbs[i + 1] << LIMB_BITS : 0L);
            return (int) (pair >> shift & 0xFFFF);
        }

        /**
         * This number, times a factor up to 2 to the 30, by under: answers the quotient and keeps
         * what is left. It must be less than under before, both not below 0, and the highest limb
         * of under at least half full: then the guess is at most 2 too high.
         */
        int takeQuotient(int factor, Big under) {
            times(factor);
            int end = under.size;
            if (end == 0 || size < end || under.limbs[end - 1] == 0) {
                return 0;
            }
            long top = size > end ? limbs[end] : 0;
            long guess = ((top << LIMB_BITS) + limbs[end - 1]) / under.limbs[end - 1];
            int quotient = (int) Math.min(guess, LIMB_MASK);
            top += takeAway(quotient, under);
            for (int i = 0; i < 2 && top < 0; i++) {
                quotient--;
                top += putBack(under);
            }
            size = end;
            trim();
            return quotient;
        }

        private long takeAway(long factor, Big under) {
            long borrow = 0;
            for (int i = 0; i < under.size && i < size; i++) {
                long limb = limbs[i] + borrow - factor * under.limbs[i];
                limbs[i] = (int) (limb & LIMB_MASK);
                borrow = limb >> LIMB_BITS;
            }
            return borrow;
        }

        private int putBack(Big under) {
            int carry = 0;
            for (int i = 0; i < under.size && i < size; i++) {
                int limb = limbs[i] + carry + under.limbs[i];
                limbs[i] = limb & LIMB_MASK;
                carry = limb >>> LIMB_BITS;
            }
            return carry;
        }
    }
}
