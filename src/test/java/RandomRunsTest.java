/**
 * Runs of 512 calls, drawn by a fixed rule, each answered by ConstantMill and by OracleMill; at the
 * end of a run all that can be asked is asked, so that a call that changed too much is found too.
 */
public final class RandomRunsTest {
    private static final int CALLS = 512;

    private final ConstantMill mill = new ConstantMill();
    private final OracleMill oracle = new OracleMill();
    private final int style;
    private long seed;
    private static int wrong = 0;
    private static long asked = 0;

    private RandomRunsTest(long seed) {
        this.seed = seed * 7919 + 13;
        style = (int) (seed % 4);
    }

    /** 0 to n - 1. */
    private int draw(int n) {
        seed = seed * 6364136223846793005L + 1442695040888963407L;
        return (int) ((seed >>> 33) % n);
    }

    private int between(int least, int most) {
        return least + draw(most - least + 1);
    }

    /** Mostly inside, seldom one beyond an end or far off. */
    private int arg(int least, int most) {
        switch (draw(40)) {
            case 0:
                return least - 1;
            case 1:
                return most + 1;
            case 2:
                return least;
            case 3:
                return most;
            case 4:
                return draw(2) == 0 ? Integer.MIN_VALUE : Integer.MAX_VALUE;
            default:
                return between(least, most);
        }
    }

    private int sum() {
        return draw(60) == 0 ? arg(0, 5) : style == 1 ? draw(2) : draw(6);
    }

    private int drawer() {
        return draw(60) == 0 ? arg(0, 7) : style == 2 ? draw(3) : draw(8);
    }

    private int constant() {
        return draw(60) == 0 ? arg(0, 3) : draw(style == 1 ? 2 : 4);
    }

    private void same(String call, long got, long want) {
        asked++;
        if (got != want && wrong++ < 20) {
            System.out.println(call + " answered " + got + ", due is " + want);
        }
    }

    private void rule(int s, int which, int c0, int c1, int c2) {
        same("rule(" + s + ", " + which + ", " + c0 + ", " + c1 + ", " + c2 + ")",
                mill.rule(s, which, c0, c1, c2), oracle.rule(s, which, c0, c1, c2));
    }

    private void bound(int s, int u, int v) {
        same("bound(" + s + ", " + u + ", " + v + ")", mill.bound(s, u, v), oracle.bound(s, u, v));
    }

    private int sign() {
        return draw(2) * 2 - 1;
    }

    /** A SUM that goes on for some TERMS or for all: of one of the known kinds, or of any. */
    private void setSum(int s) {
        switch (draw(6)) {
            case 0: // arctan of 1 / x
                int x = between(2, 31);
                rule(s, 0, sign(), 0, 0);
                rule(s, 1, x * x, 0, 0);
                rule(s, 2, 1, 0, 0);
                rule(s, 3, 1, 2, 0);
                bound(s, 1, x * x);
                break;
            case 1: // like e
                rule(s, 0, sign(), 0, 0);
                rule(s, 1, between(0, 3), between(1, 9), draw(3));
                rule(s, 2, between(1, 9), draw(2), 0);
                rule(s, 3, sign() * between(1, 99), 0, 0);
                bound(s, 4, 5);
                break;
            case 2: // geometric, its BOUND met just or missed just
                int p = between(1, 998);
                int q = between(p + 1, 999);
                rule(s, 0, sign() * p, 0, 0);
                rule(s, 1, q, 0, 0);
                rule(s, 2, between(1, 999), 0, 0);
                rule(s, 3, sign() * between(1, 999), 0, 0);
                bound(s, p * 1000 - draw(2), q * 1000);
                break;
            case 3: // large values, many bits
                rule(s, 0, between(900, 999), between(-300, -200), between(200, 240));
                rule(s, 1, sign() * 999, between(800, 999), 999);
                rule(s, 2, between(-999, 999), between(990, 999), 999);
                rule(s, 3, between(-999, 999), between(990, 999), 999);
                bound(s, between(999990, 999999), 1000000);
                break;
            case 4: // ends in zeros
                rule(s, 0, between(3, 40), -1, 0);
                rule(s, 1, 500, draw(20), 0);
                rule(s, 2, between(1, 60), draw(2) - 1, 0);
                rule(s, 3, between(1, 99), draw(2), 0);
                bound(s, 1, 2);
                break;
            default:
                for (int which = 0; which < 4; which++) {
                    rule(s, which, between(-999, 999), between(-9, 9), between(-3, 3));
                }
                bound(s, 999999, 1000000);
        }
    }

    private void sums() {
        int s = sum();
        int k;
        switch (draw(8)) {
            case 0:
                rule(s, arg(0, 3), arg(-999, 999), arg(-999, 999), arg(-999, 999));
                break;
            case 1:
                bound(s, arg(1, 999999), arg(2, 1000000));
                break;
            case 2:
            case 3:
                k = arg(0, 99);
                int which = arg(0, 3);
                same("at(" + s + ", " + which + ", " + k + ")", mill.at(s, which, k),
                        oracle.at(s, which, k));
                break;
            case 4:
            case 5:
                k = arg(0, 100);
                same("falls(" + s + ", " + k + ")", mill.falls(s, k), oracle.falls(s, k));
                break;
            default:
                setSum(draw(6));
        }
    }

    private void grindAnywhere() {
        int d = drawer();
        int s = sum();
        int i = draw(3) == 0 ? arg(0, 100) : draw(3) == 0 ? 0 : draw(20);
        int j = draw(3) == 0 ? arg(0, 100) : Math.min(100, Math.max(0, i) + draw(30));
        same("grind(" + d + ", " + s + ", " + i + ", " + j + ")", mill.grind(d, s, i, j),
                oracle.grind(d, s, i, j));
    }

    private void drawers() {
        int d = drawer();
        int e = drawer();
        switch (draw(8)) {
            case 0:
            case 1:
                grindAnywhere();
                break;
            case 2:
                int n = draw(2) == 0 ? draw(20) : arg(0, 100);
                same("more(" + d + ", " + n + ")", mill.more(d, n), oracle.more(d, n));
                break;
            case 3:
                joinSome(d, e);
                break;
            case 4:
                if (draw(4) == 0) {
                    same("empty(" + d + ")", mill.empty(d), oracle.empty(d));
                }
                break;
            case 5:
                same("same(" + d + ", " + e + ")", mill.same(d, e), oracle.same(d, e));
                break;
            default:
                askDrawer(d, arg(0, 3), draw(2) == 0 ? draw(300) : arg(0, Integer.MAX_VALUE - 1),
                        arg(2, 1000000));
        }
    }

    /** Mostly of two SPANS that are made to lie one behind the other. */
    private void joinSome(int d, int e) {
        int f = drawer();
        if (draw(3) > 0) {
            int s = sum();
            int i = draw(30);
            int middle = i + draw(30);
            int j = middle + draw(40);
            same("grind(join)", mill.grind(d, s, i, middle), oracle.grind(d, s, i, middle));
            same("grind(join)", mill.grind(e, s, middle, j), oracle.grind(e, s, middle, j));
        }
        same("join(" + d + ", " + e + ", " + f + ")", mill.join(d, e, f), oracle.join(d, e, f));
    }

    private void askDrawer(int d, int which, int k, int m) {
        String of = "(" + d + ", " + which;
        same("span" + of + ")", mill.span(d, which), oracle.span(d, which));
        same("bits" + of + ")", mill.bits(d, which), oracle.bits(d, which));
        same("sign" + of + ")", mill.sign(d, which), oracle.sign(d, which));
        same("rest" + of + ", " + m + ")", mill.rest(d, which, m), oracle.rest(d, which, m));
        same("word" + of + ", " + k + ")", mill.word(d, which, k), oracle.word(d, which, k));
    }

    private void parts() {
        int c = constant();
        switch (draw(6)) {
            case 0:
                same("clear(" + c + ")", mill.clear(c), oracle.clear(c));
                break;
            case 1:
                int part = arg(0, 3);
                int what = arg(0, 2);
                same("told(" + c + ", " + part + ", " + what + ")", mill.told(c, part, what),
                        oracle.told(c, part, what));
                break;
            default:
                int s = sum();
                int m = draw(2) == 0 ? between(-20, 20) : arg(-1000000, 1000000);
                int n = draw(2) == 0 ? between(1, 20) : arg(1, 1000000);
                same("part(" + c + ", " + s + ", " + m + ", " + n + ")", mill.part(c, s, m, n),
                        oracle.part(c, s, m, n));
        }
    }

    private void results() {
        int c = constant();
        int base = draw(3) == 0 ? 10 : arg(2, 36);
        int n = draw(2) == 0 ? draw(12) : arg(0, 100);
        int terms = draw(2) == 0 ? between(1, 12) : arg(1, 100);
        String with = ", " + base + ", " + n;
        switch (draw(8)) {
            case 0:
                if (draw(4) == 0) {
                    same("need(" + c + with + ")", mill.need(c, base, n), oracle.need(c, base, n));
                }
                break;
            case 1:
                int d = constant();
                same("agree(" + c + ", " + d + with + ", " + terms + ")",
                        mill.agree(c, d, base, n, terms), oracle.agree(c, d, base, n, terms));
                break;
            case 2:
                askResult();
                break;
            default:
                same("figures(" + c + with + ", " + terms + ")", mill.figures(c, base, n, terms),
                        oracle.figures(c, base, n, terms));
        }
    }

    private void askResult() {
        int i = arg(-1, 101);
        same("signOf()", mill.signOf(), oracle.signOf());
        same("whole()", mill.whole(), oracle.whole());
        same("figure(" + i + ")", mill.figure(i), oracle.figure(i));
        int figure = arg(0, 35);
        same("count(" + figure + ")", mill.count(figure), oracle.count(figure));
        int n = arg(1, 5);
        int row = 0;
        int place = between(1, 20);
        for (int k = 0; k < n && n <= 5; k++) {
            row = row << 5 | oracle.figure(place + k) & 31;
        }
        row = draw(6) == 0 ? draw(1 << 30) : draw(6) == 0 ? row | draw(64) << 26 : row;
        same("where(" + row + ", " + n + ")", mill.where(row, n), oracle.where(row, n));
        int what = arg(0, 4);
        same("about(" + what + ")", mill.about(what), oracle.about(what));
    }

    private void askAll() {
        for (int d = 0; d < 8; d++) {
            for (int which = 0; which < 4; which++) {
                askDrawer(d, which, draw(200), 999983);
            }
        }
        for (int s = 0; s < 6; s++) {
            for (int which = 0; which < 4; which++) {
                same("at", mill.at(s, which, 98), oracle.at(s, which, 98));
            }
            same("falls(" + s + ", 100)", mill.falls(s, 100), oracle.falls(s, 100));
        }
        for (int i = 1; i <= 100; i++) {
            same("figure(" + i + ")", mill.figure(i), oracle.figure(i));
        }
    }

    private void run() {
        long before = asked;
        for (int s = 0; s < 6 && style != 3; s++) {
            setSum(s);
        }
        // the last step may be a join with its four calls or a sum with its five, and askAll has 290
        while (asked - before < CALLS - 300) {
            switch (draw(10)) {
                case 0:
                    sums();
                    break;
                case 1:
                case 2:
                case 3:
                    drawers();
                    break;
                case 4:
                case 5:
                    parts();
                    break;
                default:
                    results();
            }
        }
        askAll();
    }

    public static void main(String[] args) {
        int runs = args.length > 0 ? Integer.parseInt(args[0]) : 250;
        int first = args.length > 1 ? Integer.parseInt(args[1]) : 0;
        for (int i = first; i < first + runs; i++) {
            int before = wrong;
            new RandomRunsTest(i).run();
            if (wrong > before) {
                System.out.println("that was run " + i);
            }
        }
        System.out.println(asked + " calls asked in " + runs + " runs, " + wrong + " answers wrong");
        if (wrong != 0) {
            System.exit(1);
        }
    }
}
