import java.math.BigInteger;

/** What the document is about and its terms, sentence by sentence. */
public final class TermsEdgeTest extends Edges {
    /** RULES that fall nowhere, of which no two are alike; and such with the longest NUMBERS. */
    private static final int[][] UNLIKE = {{3, -2, 1}, {-80, 7, -9}, {-5, -3, 2}, {4, -9, -3}};
    private static final int[][] LONGEST = {{-998, -998, -998}, {999, 999, 999}, {999, 999, 999},
        {-999, -999, -999}};

    private static void whatItIs() {
        section("What it is");
        free("A mill for figures of constants: sums told by rules of polynomials");
        on("ground span by span into whole numbers of any length, that are kept in drawers, joined, "
                + "gone on", TermsEdgeTest::longest);
        on("constants made of such sums; figures in a base, of which just those are told that no term "
                + "left out could change.", TermsEdgeTest::longestFigures);
        on("An object is used for at most 512 calls after it has been made", () -> {
            ConstantMill x = new ConstantMill();
            eulers(x, 0, 0);
            for (int call = 9; call <= 509; call++) {
                due("call " + call, x.grind(call % 8, 0, call % 100, 100), 100 - call % 100);
            }
            due("call 510", x.figures(0, 10, 100, 100), 100);
            due("call 511", x.figure(100), 4);
            due("call 512", x.more(509 % 8, 0), 100);
            ConstantMill y = new ConstantMill();
            for (int call = 1; call <= 511; call++) {
                due("part " + call, y.part(3, 5, call, 7), call <= 4 ? call : FULL);
            }
            due("call 512", y.told(3, 3, 1), 4);
        });
        on("what later calls answer is free", () -> {
            // no call may ever throw, not even one of these
            ConstantMill x = new ConstantMill();
            eulers(x, 0, 0);
            int[] args = {0, 1, 3, 99, 100, 101, -1, MOST, LEAST};
            for (int i = 0; i < 9 * 9 * 9; i++) {
                everything(x, args[i % 9], args[i / 9 % 9], args[i / 81]);
            }
            due("goes on", x.figures(0, 10, 3, 50) != STATE);
        });
    }

    /** All four RULES as large as they can be, for all TERMS; ground, gone on, joined. */
    private static void longest() {
        for (int which = 0; which < 4; which++) {
            for (int way = 0; way < 3; way++) {
                ConstantMill x = new ConstantMill();
                for (int rule = 0; rule < 4; rule++) {
                    x.rule(0, rule, LONGEST[rule][0], LONGEST[rule][1], LONGEST[rule][2]);
                }
                x.bound(0, 998, 999);
                x.grind(0, 0, 0, way == 0 ? 100 : 50);
                x.grind(1, 0, 50, 100);
                due("whole", way == 1 ? x.more(0, 50) : way == 2 ? x.join(0, 1, 0) : 100, 100);
                due("NUMBER " + which, number(x, 0, which).toString(),
                        byDefinition(LONGEST, which, 0, 100).toString());
            }
        }
    }

    /** Four parts, whose denominators are as long as they can be. */
    private static void longestFigures() {
        for (int base = 2; base <= 36; base += 17) {
            ConstantMill x = new ConstantMill();
            OracleMill oracle = new OracleMill();
            for (int s = 0; s < 4; s++) {
                int[][] rules = {{s + 1, 0, 0}, {999, 999 - s, 999}, {999 - s, 999, 999}, {-998, -999, s - 999}};
                for (int which = 0; which < 4; which++) {
                    x.rule(s, which, rules[which][0], rules[which][1], rules[which][2]);
                    oracle.rule(s, which, rules[which][0], rules[which][1], rules[which][2]);
                }
                x.bound(s, 1000 + 1000 * s, 999999);
                oracle.bound(s, 1000 + 1000 * s, 999999);
                due("part", x.part(0, s, 1000000 - s, 999983), oracle.part(0, s, 1000000 - s, 999983));
            }
            due("figures", x.figures(0, base, 100, 100), oracle.figures(0, base, 100, 100));
            due("all are SURE", x.about(4), 100);
            due("sign", x.signOf(), oracle.signOf());
            due("whole", x.whole(), oracle.whole());
            for (int i = 1; i <= 100; i++) {
                due("figure " + i, x.figure(i), oracle.figure(i));
            }
            due("with 30 TERMS", x.figures(0, base, 100, 30), oracle.figures(0, base, 100, 30));
            due("with 3", x.figures(0, base, 100, 3), oracle.figures(0, base, 100, 3));
            due("need", x.need(0, base, 100), oracle.need(0, base, 100));
        }
    }

    private static void everything(ConstantMill x, int i, int j, int k) {
        x.grind(i, 0, j, k);
        x.more(i, j);
        x.join(i, j, k);
        x.rest(i, j, k);
        x.word(i, j, k);
        x.bits(i, j);
        x.sign(i, j);
        x.same(i, j);
        x.span(i, j);
        x.told(i, j, k);
        x.part(i, j, k, k);
        x.figures(i, 7, j, k);
        x.need(i, j, k);
        x.agree(i, j, 7, k, k);
        x.figure(i);
        x.count(i);
        x.where(i, j);
        x.about(i);
        x.at(i, j, k);
        x.falls(i, j);
        x.bound(i, j, k);
        x.rule(i, j, k, k, k);
        x.empty(i);
        x.clear(i);
        x.signOf();
        x.whole();
    }

    private static void answers() {
        section("Terms");
        on("Calls answer, the first of these that fits", TermsEdgeTest::firstThatFits);
        on("UNKNOWN -1 (there is no such SUM, DRAWER, CONSTANT, part)", () -> {
            ConstantMill x = Furnished.make();
            for (int bad : new int[] {-1, 6, LEAST, MOST}) {
                due("rule", x.rule(bad, 0, 0, 0, 0), -1);
                due("grind", x.grind(0, bad, 0, 0), -1);
                due("part", x.part(3, bad, 1, 1), -1);
            }
            for (int bad : new int[] {-1, 8, LEAST, MOST}) {
                due("grind", x.grind(bad, 0, 0, 0), -1);
                due("join", x.join(0, 1, bad), -1);
                due("empty", x.empty(bad), -1);
            }
            for (int bad : new int[] {-1, 4, LEAST, MOST}) {
                due("figures", x.figures(bad, 10, 0, 1), -1);
                due("clear", x.clear(bad), -1);
                due("told, of a part", x.told(0, bad, 0), NO_SUCH);
                due("told", x.told(bad, 0, 0), NO_SUCH);
            }
        });
        on("OUTSIDE -2 (another number is not as told)", () -> {
            ConstantMill x = Furnished.make();
            due("a rule is no SUM", x.rule(0, 4, 0, 0, 0), -2);
            due("a NUMBER is no DRAWER", x.bits(0, 4), -2);
            due("what", x.span(0, 3), -2);
            due("a figure is no part", x.count(36), -2);
        });
        on("STATE -3 (as told)", () -> due("empty", new ConstantMill().empty(0), -3));
        on("FULL -4", () -> due("full", Furnished.make().part(0, 0, 1, 1), -4));
        on("NO -5 (as told)", () -> due("no", Furnished.make().join(1, 0, 2), -5));
        on("-100 less k: a SUM FALLS at k", () -> {
            for (int k = 0; k < 100; k++) {
                ConstantMill x = new ConstantMill();
                fallsAt(x, 0, k);
                x.part(0, 0, 1, 1);
                due("grind", x.grind(0, 0, 0, 100), -100 - k);
                due("figures", x.figures(0, 10, 5, 100), -100 - k);
                due("agree", x.agree(1, 0, 10, 5, 100), -100 - k);
                due("grind", x.grind(0, 0, 0, k), k);
                due("more", x.more(0, 100 - k), -100 - k);
                due("falls tells k itself", x.falls(0, 100), k);
            }
        });
        on("They change nothing but what is told.", () -> {
            Furnished.keeps("nothing", 0, x -> 0);
            Furnished.changes("rule", 1, x -> x.rule(4, 0, 2, 0, 0), "sum 4", "drawer 5");
            Furnished.changes("bound", 1, x -> x.bound(4, 1, 9), "sum 4", "drawer 5");
            Furnished.changes("grind", 2, x -> x.grind(2, 3, 7, 9), "drawer 2");
            Furnished.changes("more", 17, x -> x.more(1, 2), "drawer 1");
            Furnished.changes("join", 15, x -> x.join(0, 1, 2), "drawer 2");
            Furnished.changes("empty", 10, x -> x.empty(0), "drawer 0");
            Furnished.changes("part", 3, x -> x.part(1, 5, 3, 4), "constant 1");
            Furnished.changes("clear", 4, x -> x.clear(0), "constant 0");
            Furnished.changes("figures", 5, x -> x.figures(1, 7, 5, 20), "result");
            Furnished.keeps("need", 31, x -> x.need(1, 10, 15));
            Furnished.keeps("agree", 0, x -> x.agree(0, 1, 10, 15, 30));
            Furnished.keeps("refused", UNKNOWN, x -> x.grind(8, 0, 0, 1));
            Furnished.keeps("refused", OUTSIDE, x -> x.figures(1, 10, 101, 5));
            Furnished.keeps("refused", STATE, x -> x.join(0, 7, 1));
            Furnished.keeps("refused", FULL, x -> x.part(0, 0, 1, 1));
            Furnished.keeps("refused", NO, x -> x.join(0, 2, 1));
            Furnished.keeps("falls", -104, x -> x.grind(0, 4, 0, 5));
        });
    }

    private static void firstThatFits() {
        ConstantMill x = Furnished.make();
        due("UNKNOWN, OUTSIDE", x.rule(6, 4, 1000, 0, 0), UNKNOWN);
        due("UNKNOWN, OUTSIDE", x.bound(6, 2, 1), UNKNOWN);
        due("UNKNOWN, OUTSIDE", x.at(6, 0, 100), NO_SUCH);
        due("UNKNOWN, OUTSIDE", x.at(0, 4, 100), NO_SUCH);
        due("UNKNOWN, OUTSIDE", x.falls(6, 101), UNKNOWN);
        due("UNKNOWN, OUTSIDE", x.grind(8, 0, 2, 1), UNKNOWN);
        due("UNKNOWN, OUTSIDE", x.grind(0, 6, 2, 1), UNKNOWN);
        due("UNKNOWN, OUTSIDE", x.more(8, 101), UNKNOWN);
        due("UNKNOWN, OUTSIDE", x.span(8, 3), UNKNOWN);
        due("UNKNOWN, OUTSIDE", x.bits(8, 4), UNKNOWN);
        due("UNKNOWN, OUTSIDE", x.sign(8, 4), UNKNOWN);
        due("UNKNOWN, OUTSIDE", x.rest(8, 4, 1), UNKNOWN);
        due("UNKNOWN, OUTSIDE", x.word(8, 4, -1), UNKNOWN);
        due("UNKNOWN, OUTSIDE", x.part(4, 0, 1, 0), UNKNOWN);
        due("UNKNOWN, OUTSIDE", x.part(3, 6, 1, 0), UNKNOWN);
        due("UNKNOWN, OUTSIDE", x.told(0, 4, 3), NO_SUCH);
        due("UNKNOWN, OUTSIDE", x.told(3, 0, 3), NO_SUCH);
        due("UNKNOWN, OUTSIDE", x.figures(4, 1, 101, 0), UNKNOWN);
        due("UNKNOWN, OUTSIDE", x.need(4, 1, 101), UNKNOWN);
        due("UNKNOWN, OUTSIDE", x.agree(4, 0, 1, 101, 0), UNKNOWN);
        due("UNKNOWN, OUTSIDE", x.agree(0, 4, 1, 101, 0), UNKNOWN);
        due("UNKNOWN, STATE", x.join(6, 7, 8), UNKNOWN);
        due("UNKNOWN, STATE", x.join(8, 7, 0), UNKNOWN);
        due("UNKNOWN, STATE", x.join(7, 8, 0), UNKNOWN);
        due("UNKNOWN, STATE", x.same(6, 8), UNKNOWN);
        due("UNKNOWN, STATE", x.same(8, 6), UNKNOWN);
        due("UNKNOWN, FULL", x.part(0, 6, 1, 1), UNKNOWN);
        due("UNKNOWN, NO", x.join(1, 0, 8), UNKNOWN);
        due("UNKNOWN, FALLS", x.grind(8, 4, 0, 9), UNKNOWN);
        due("UNKNOWN, FALLS", x.agree(2, 4, 10, 5, 9), UNKNOWN);
        due("OUTSIDE, STATE", x.more(7, 101), OUTSIDE);
        due("OUTSIDE, STATE", x.more(7, -1), OUTSIDE);
        due("OUTSIDE, STATE", x.span(7, 3), OUTSIDE);
        due("OUTSIDE, STATE", x.bits(7, 4), OUTSIDE);
        due("OUTSIDE, STATE", x.sign(7, 4), OUTSIDE);
        due("OUTSIDE, STATE", x.rest(7, 0, 1), OUTSIDE);
        due("OUTSIDE, STATE", x.rest(7, 4, 2), OUTSIDE);
        due("OUTSIDE, STATE", x.word(7, 0, -1), OUTSIDE);
        due("OUTSIDE, STATE", x.word(7, 4, 0), OUTSIDE);
        due("OUTSIDE, STATE", new ConstantMill().about(5), OUTSIDE);
        due("OUTSIDE, FULL", x.part(0, 0, 1, 0), OUTSIDE);
        due("OUTSIDE, FULL", x.part(0, 0, 1000001, 1), OUTSIDE);
        due("OUTSIDE, NO", x.need(3, 1, 5), OUTSIDE);
        due("OUTSIDE, FALLS", x.grind(0, 4, 0, 101), OUTSIDE);
        due("OUTSIDE, FALLS", x.more(5, 97), OUTSIDE);
        due("OUTSIDE, FALLS", x.figures(2, 10, 5, 101), OUTSIDE);
        due("OUTSIDE, FALLS", x.figures(2, 1, 5, 9), OUTSIDE);
        due("OUTSIDE, FALLS", x.agree(2, 2, 10, 101, 9), OUTSIDE);
        due("STATE, NO", x.join(1, 7, 0), STATE);
        due("STATE, NO", x.join(7, 0, 1), STATE);
    }

    private static void sums() {
        on("1 SUMS 0 to 5 have four RULES", () -> {
            ConstantMill x = new ConstantMill();
            for (int i = 0; i < 24; i++) {
                due("rule", x.rule(i / 4, i % 4, i - 9, 2 * i, -i), 0);
            }
            for (int i = 0; i < 24; i++) {
                due("its own", x.at(i / 4, i % 4, 5), i - 9 + 10 * i - 25 * i);
            }
            due("no sum 6", x.rule(6, 0, 1, 1, 1), UNKNOWN);
            due("no sum -1", x.rule(-1, 0, 1, 1, 1), UNKNOWN);
            due("no rule 4", x.rule(5, 4, 1, 1, 1), OUTSIDE);
            due("no rule -1", x.rule(0, -1, 1, 1, 1), OUTSIDE);
        });
        on("p (0), q (1), a (2), b (3)", () -> {
            ConstantMill x = new ConstantMill();
            rules(x, 0, 3, 5, 7, 11);
            x.grind(0, 0, 1, 2);
            due("P is p, Q is q, B is b, T is p a", numbers(x, 0), "3 5 11 21");
        });
        on("c0 + c1 k + c2 k k", () -> {
            ConstantMill x = new ConstantMill();
            x.rule(0, 2, 5, -7, 3);
            due("at 0", x.at(0, 2, 0), 5);
            due("at 1", x.at(0, 2, 1), 1);
            due("at 2", x.at(0, 2, 2), 3);
            due("at 99", x.at(0, 2, 99), 5 - 693 + 29403);
        });
        on("with c0, c1, c2 from -999 to 999", () -> {
            for (int i = 0; i < 6; i++) {
                int[] c = {0, 0, 0};
                c[i / 2] = i % 2 == 0 ? 999 : -999;
                ConstantMill x = new ConstantMill();
                due("just in it", x.rule(0, 3, c[0], c[1], c[2]), 0);
                due("at 1", x.at(0, 3, 1), i % 2 == 0 ? 999 : -999);
                c[i / 2] = i % 2 == 0 ? 1000 : -1000;
                due("just beyond it", x.rule(0, 3, c[0], c[1], c[2]), OUTSIDE);
                due("at 1 still", x.at(0, 3, 1), i % 2 == 0 ? 999 : -999);
            }
        });
        on("(all 0 at first)", () -> {
            ConstantMill x = new ConstantMill();
            for (int i = 0; i < 24; i++) {
                due("at 1", x.at(i / 4, i % 4, 1), 0);
                due("at 2", x.at(i / 4, i % 4, 2), 0);
                due("at 99", x.at(i / 4, i % 4, 99), 0);
            }
        });
        on("for k from 0 to 99", () -> {
            ConstantMill x = new ConstantMill();
            x.rule(0, 3, 0, 1, 0);
            due("99", x.at(0, 3, 99), 99);
            due("100", x.at(0, 3, 100), NOT_THERE);
            due("-1", x.at(0, 3, -1), NOT_THERE);
        });
        on("but p(0) and q(0) are 1", () -> {
            ConstantMill x = new ConstantMill();
            for (int c0 : new int[] {0, 7, -999}) {
                for (int which = 0; which < 4; which++) {
                    x.rule(0, which, c0, 0, 0);
                    due("at 0", x.at(0, which, 0), which < 2 ? 1 : c0);
                    due("at 1", x.at(0, which, 1), c0);
                }
            }
            rules(x, 1, 0, 0, 3, 5);
            due("q(0) lets none fall", x.grind(0, 1, 0, 1), 1);
            due("nor is p(0) in its NUMBERS", numbers(x, 0), "1 1 5 3");
            due("but b(0) does", x.falls(2, 1), 0);
        });
        on("and a BOUND u / v (1 / 2 at first)", () -> {
            for (int s = 0; s < 6; s++) {
                ConstantMill x = new ConstantMill();
                rules(x, s, 499, 998, 1, 1);
                due("1 / 2", x.falls(s, 100), NONE);
                x.rule(s, 0, 500, 0, 0);
                due("more", x.falls(s, 100), 1);
                x.part(0, s, 1, 1);
                due("E is as much as the TERM", x.figures(0, 10, 5, 1), NONE);
                due("LOW is 0", x.signOf(), 0);
                x.bound(s, 499, 999);
                x.figures(0, 10, 5, 1);
                due("LOW is above it with less", x.signOf(), 1);
            }
        });
        on("TERM k is a(k) / b(k) times p(1) .. p(k) / (q(1) .. q(k))", () -> {
            // with m p's a TERM is 0 from k = m + 1 on, so that the sum is told exactly
            ConstantMill x = new ConstantMill();
            rules(x, 0, 0, 4, 1, 5);
            x.rule(0, 0, 3, -1, 0);
            x.rule(0, 2, 2, 1, 0);
            x.part(0, 0, 1, 1);
            x.bound(0, 3, 4);
            // 2/5, 3/5 times 2/4, 4/5 times 2/16
            due("0.4", x.figures(0, 10, 5, 4), 5);
            due("0.4 + 0.3 + 0.1", result(x), "+0.80000");
            due("its numbers", x.grind(0, 0, 0, 3), 3);
            due("P 2 1, Q 4 4, B 5 5 5, T", numbers(x, 0), "2 16 125 " + (2 * 16 * 25 + 3 * 2 * 4 * 25 + 4 * 2 * 25));
        });
        fall();
    }

    private static void fall() {
        on("A SUM FALLS at k, the least of those asked for", () -> {
            ConstantMill x = new ConstantMill();
            rules(x, 0, 0, 1, 1, 1);
            x.rule(0, 1, 12, -7, 1);
            x.rule(0, 3, 10, -7, 1);
            due("q at 3 and 4, b at 2 and 5", x.falls(0, 100), 2);
            due("from 3 on", x.grind(0, 0, 3, 9), -103);
            due("from 4 on", x.grind(0, 0, 4, 9), -104);
            due("from 5 on", x.grind(0, 0, 5, 9), -105);
            due("from 6 on", x.grind(0, 0, 6, 9), 3);
        });
        on("(from i to j - 1 for a SPAN)", () -> {
            ConstantMill x = new ConstantMill();
            fallsAt(x, 0, 50);
            due("up to 50", x.grind(0, 0, 40, 50), 10);
            due("with 50", x.grind(0, 0, 40, 51), -150);
            due("50 alone", x.grind(0, 0, 50, 51), -150);
            due("empty at 50", x.grind(0, 0, 50, 50), 0);
            due("behind 50", x.grind(0, 0, 51, 60), 9);
        });
        on("if q(k) or b(k) is 0", () -> {
            for (int which = 0; which < 4; which++) {
                ConstantMill x = new ConstantMill();
                rules(x, 0, 0, 1, 1, 1);
                x.rule(0, which, -7, 1, 0);
                due("of rule " + which, x.grind(0, 0, 7, 8), which % 2 == 1 ? -107 : 1);
                due("0 in all, rule " + which, x.rule(0, which, 0, 0, 0), which % 2 == 1 ? 0 : 1);
                due("of rule " + which, x.falls(0, 100), which == 1 ? 1 : which == 3 ? 0 : NONE);
            }
        });
        on("or, k not being i", () -> {
            ConstantMill x = new ConstantMill();
            rules(x, 0, 9, 1, 1, 1);
            for (int i = 0; i < 99; i++) {
                due("i alone", x.grind(0, 0, i, i + 1), 1);
                due("and the next", x.grind(0, 0, i, i + 2), -101 - i);
            }
        });
        on("if |p(k) a(k) b(k - 1)| v is above |q(k) b(k) a(k - 1)| u", TermsEdgeTest::aboveTheBound);
        on("(with what b(k - 1), a(k - 1) are)", () -> {
            ConstantMill x = new ConstantMill();
            rules(x, 0, 1, 1, 0, 1);
            due("0 behind 0 is not above 0", x.falls(0, 100), NONE);
            x.rule(0, 2, -7, 1, 0);
            due("1 behind 0 is", x.grind(0, 0, 7, 9), -108);
            due("-1 and then 0", x.grind(0, 0, 6, 8), 2);
            due("the 0 alone", x.grind(0, 0, 7, 8), 1);
            x.rule(0, 0, 0, 0, 0);
            due("p is 0: 0 is not above 0", x.grind(0, 0, 7, 9), 2);
            due("from 0 on", x.falls(0, 100), NONE);
        });
    }

    /** Each factor by itself, met just and missed just, whatever the signs; and very large ones. */
    private static void aboveTheBound() {
        int[][] met = {{6, 7, 5, 3, 10, 1, 4, 7}, {1, 2, 1, 1, 1, 1, 1, 2}, {2, 4, 9, 3, 6, 2, 1, 2}};
        for (int[] m : met) {
            // at k = 1: p, q, a, b, then a(0), b(0), the BOUND met by them or nearly
            BigInteger left = product(m[0], m[2], m[5], m[7]);
            BigInteger right = product(m[1], m[3], m[4], m[6]);
            boolean above = left.compareTo(right) > 0;
            for (int signs = 0; signs < 64; signs++) {
                due("signs " + signs, firstRatio(signed(m, signs)), above ? 1 : NONE);
            }
            for (int i = 0; i < 6; i++) {
                int[] more = m.clone();
                more[i]++;
                boolean falls = product(more[0], more[2], more[5], more[7])
                        .compareTo(product(more[1], more[3], more[4], more[6])) > 0;
                due("one more of " + i, firstRatio(more), falls ? 1 : NONE);
            }
        }
        due("just met", firstRatio(new int[] {1, 2, 1, 1, 1, 1, 1, 2}), NONE);
        due("just met", firstRatio(new int[] {2, 4, 3, 3, 5, 5, 500000, 1000000}), NONE);
        due("just missed", firstRatio(new int[] {2, 4, 3, 3, 5, 5, 499999, 1000000}), 1);
        due("just met", firstRatio(new int[] {998, 999, 7, 9, 7, 9, 998, 999}), NONE);
        due("just missed", firstRatio(new int[] {998, 999, 7, 9, 7, 9, 997, 998}), 1);
        // on both sides of 2 to the 30, where a long product may be cut in two
        due("1074000000 and 1073741175", firstRatio(new int[] {1074, 1075, 1, 1, 1, 1, 998829, 1000000}), 1);
        due("1073000000 and 1073998926", firstRatio(new int[] {1073, 1074, 1, 1, 1, 1, 999999, 1000000}), NONE);
        due("both 2 to the 30", firstRatio(new int[] {1024, 1024, 2, 1, 4, 1, 262144, 524288}), NONE);
        due("2 to the 30 and 4096 less", firstRatio(new int[] {1024, 1024, 2, 1, 4, 1, 262143, 524288}), 1);
        // 90 bits: p and q go as 998 and 999 of one polynomial, a and b as another
        ConstantMill x = new ConstantMill();
        x.rule(0, 0, 998, 998, 998);
        x.rule(0, 1, 999, 999, 999);
        x.rule(0, 2, 999, 999, 999);
        x.rule(0, 3, -999, -999, -999);
        x.bound(0, 998000, 999000);
        due("just met by long products", x.falls(0, 100), NONE);
        due("just met", x.grind(0, 0, 97, 100), 3);
        x.bound(0, 997999, 999000);
        due("just missed by long products", x.falls(0, 100), 1);
        due("just missed", x.grind(0, 0, 97, 100), -198);
        x.bound(0, 998000, 998999);
        due("just met by long products", x.falls(0, 100), NONE);
        longProducts();
    }

    private static BigInteger product(long... factors) {
        BigInteger all = BigInteger.ONE;
        for (long factor : factors) {
            all = all.multiply(BigInteger.valueOf(Math.abs(factor)));
        }
        return all;
    }

    private static int[] signed(int[] values, int signs) {
        int[] all = values.clone();
        for (int i = 0; i < 6; i++) {
            all[i] = (signs >> i & 1) == 1 ? -all[i] : all[i];
        }
        return all;
    }

    /** Where a sum falls whose p(1), q(1), a(1), b(1), a(0), b(0), u, v are these. */
    private static int firstRatio(int[] of) {
        ConstantMill x = new ConstantMill();
        x.rule(0, 0, of[0] - of[0] / 2, of[0] / 2, 0);
        x.rule(0, 1, of[1] - of[1] / 2, of[1] / 2, 0);
        x.rule(0, 2, of[4], of[2] - of[4], 0);
        x.rule(0, 3, of[5], of[3] - of[5], 0);
        x.bound(0, of[6], of[7]);
        return x.falls(0, 2);
    }

    /** Values that would wrap in 64 bits, each ratio compared with one of BigIntegers. */
    private static void longProducts() {
        long seed = 17;
        int fell = 0;
        for (int run = 0; run < 300; run++) {
            int[] c = new int[12];
            for (int i = 0; i < 12; i++) {
                seed = seed * 6364136223846793005L + 1442695040888963407L;
                c[i] = (int) ((seed >>> 40) % 1999) - 999;
            }
            ConstantMill x = new ConstantMill();
            for (int which = 0; which < 4; which++) {
                x.rule(0, which, c[3 * which], c[3 * which + 1], c[3 * which + 2]);
            }
            int u = 1 + (int) ((seed >>> 33) % 999999);
            int v = u + 1 + (int) ((seed >>> 20 & 0xFFFFF) % (1000000 - u));
            x.bound(0, u, v);
            int k = 50 + run % 50;
            if (x.at(0, 3, k - 1) == 0 || x.at(0, 1, k - 1) == 0) {
                continue;
            }
            boolean falls = x.at(0, 1, k) == 0 || x.at(0, 3, k) == 0
                    || product(x.at(0, 0, k), x.at(0, 2, k), x.at(0, 3, k - 1), v).compareTo(
                            product(x.at(0, 1, k), x.at(0, 3, k), x.at(0, 2, k - 1), u)) > 0;
            fell += falls ? 1 : 0;
            due("run " + run, x.grind(0, 0, k - 1, k + 1), falls ? -100 - k : 2);
        }
        due("some fell and some did not", fell > 50 && fell < 250);
    }

    private static void spans() {
        on("A SPAN of a SUM goes from i up to j, without it (0 to 100)", () -> {
            ConstantMill x = new ConstantMill();
            rules(x, 0, 0, 1, 1, 1);
            x.rule(0, 0, 0, 1, 0);
            x.rule(0, 1, 0, 999, 0);
            due("from 2 up to 5", x.grind(0, 0, 2, 5), 3);
            due("P is 2 3 4", number(x, 0, 0).longValue(), 24);
            due("from 5 up to 6", x.grind(0, 0, 5, 6), 1);
            due("P is 5", number(x, 0, 0).longValue(), 5);
            due("0 to 100", x.grind(0, 0, 0, 100), 100);
            due("99 to 100", x.grind(0, 0, 99, 100), 1);
            due("P is 99", number(x, 0, 0).longValue(), 99);
            due("up to 101", x.grind(0, 0, 99, 101), OUTSIDE);
            due("from -1", x.grind(0, 0, -1, 1), OUTSIDE);
        });
        on("Its NUMBERS: P the product of its p(k), Q of its q(k), B of its b(k), T the sum, for its k, "
                + "of a(k), its p(m) for m up to k, its q(m) for m above k, and its b(m) for all m but k, "
                + "all multiplied.", TermsEdgeTest::numbersOfSpans);
        on("(An empty one, i being j: 1, 1, 1, 0.)", () -> {
            ConstantMill x = new ConstantMill();
            rules(x, 0, 2, 5, 3, 7);
            for (int i : new int[] {0, 1, 50, 99, 100}) {
                due("of a sum", x.grind(0, 0, i, i), 0);
                due("at " + i, numbers(x, 0), "1 1 1 0");
                due("of one that falls", x.grind(1, 5, i, i), 0);
                due("at " + i, numbers(x, 1), "1 1 1 0");
                due("bits of 0", x.bits(1, 3), 0);
            }
        });
        on("DRAWERS 0 to 7 have a SPAN of a SUM with its NUMBERS, or nothing.", () -> {
            ConstantMill x = new ConstantMill();
            for (int s = 0; s < 6; s++) {
                rules(x, s, s + 1, 99, s - 3, s + 5);
                x.bound(s, 1, 2);
            }
            for (int d = 0; d < 8; d++) {
                due("nothing", span(x, d), "empty");
                due("grind", x.grind(d, d % 6, d + 1, d + 2), 1);
            }
            for (int d = 0; d < 8; d++) {
                int s = d % 6;
                due("its own", span(x, d), s + ": " + (d + 1) + " to " + (d + 2));
                due("its own", numbers(x, d), s + 1 + " 99 " + (s + 5) + " " + (s + 1) * (s - 3));
            }
            due("no drawer 8", x.grind(8, 0, 0, 0), UNKNOWN);
            due("no drawer -1", x.grind(-1, 0, 0, 0), UNKNOWN);
        });
        on("Another RULE, BOUND of a SUM empties its DRAWERS.", () -> {
            for (int which = 0; which < 4; which++) {
                int w = which;
                Furnished.changes("rule", 3, x -> x.rule(0, w, 2, 3, 4), "sum 0", "drawer 0", "drawer 1", "drawer 4");
            }
            Furnished.changes("bound", 1, x -> x.bound(3, 1, 2), "sum 3", "drawer 3");
            Furnished.keeps("a refused rule", OUTSIDE, x -> x.rule(0, 0, 2, 3, 1000));
            Furnished.keeps("a refused bound", OUTSIDE, x -> x.bound(0, 2, 2));
        });
    }

    private static void numbersOfSpans() {
        int[][] spans = {{0, 1}, {0, 2}, {0, 7}, {1, 2}, {2, 9}, {40, 60}, {99, 100}};
        for (int[] s : spans) {
            numbersOf(s[0], s[1], 4);
        }
        // a call for each sixteen bits: one NUMBER of all TERMS for each object
        for (int which = 0; which < 4; which++) {
            numbersOf(0, 100, which);
        }
    }

    /** Of a SPAN: one of its NUMBERS, or (4) all four. */
    private static void numbersOf(int i, int j, int one) {
        ConstantMill x = new ConstantMill();
        for (int which = 0; which < 4; which++) {
            x.rule(0, which, UNLIKE[which][0], UNLIKE[which][1], UNLIKE[which][2]);
        }
        x.bound(0, 999999, 1000000);
        due("grind", x.grind(0, 0, i, j), j - i);
        for (int which = 0; which < 4; which++) {
            if (one == 4 || one == which) {
                due("NUMBER " + which, number(x, 0, which).toString(), byDefinition(UNLIKE, which, i, j).toString());
            }
        }
    }

    private static BigInteger value(int[][] rules, int which, int k) {
        int[] c = rules[which];
        return k == 0 && which < 2 ? BigInteger.ONE : BigInteger.valueOf(c[0] + c[1] * k + c[2] * k * k);
    }

    private static BigInteger byDefinition(int[][] rules, int which, int i, int j) {
        BigInteger sum = BigInteger.ZERO;
        BigInteger product = BigInteger.ONE;
        for (int k = i; k < j; k++) {
            product = product.multiply(value(rules, which == 2 ? 3 : which, k));
            BigInteger addend = value(rules, 2, k);
            for (int m = i; m < j; m++) {
                addend = addend.multiply(value(rules, m <= k ? 0 : 1, m));
                addend = addend.multiply(m == k ? BigInteger.ONE : value(rules, 3, m));
            }
            sum = sum.add(addend);
        }
        return which == 3 ? sum : product;
    }

    private static void constants() {
        on("2 CONSTANTS 0 to 3 have up to 4 parts: a SUM, and a factor m / n.", () -> {
            ConstantMill x = new ConstantMill();
            for (int i = 0; i < 16; i++) {
                due("part", x.part(i / 4, i % 6, -i, i + 1), i % 4 + 1);
            }
            for (int i = 0; i < 16; i++) {
                due("its SUM", x.told(i / 4, i % 4, 0), i % 6);
                due("its m", x.told(i / 4, i % 4, 1), -i);
                due("its n", x.told(i / 4, i % 4, 2), i + 1);
                due("no fifth", x.part(i / 4, 0, 1, 1), FULL);
            }
            due("no constant 4", x.part(4, 0, 1, 1), UNKNOWN);
            due("no constant -1", x.part(-1, 0, 1, 1), UNKNOWN);
        });
        on("With N TERMS (1 to 100) a part's X is m / n times the sum of TERMS 0 to N - 1", () -> {
            ConstantMill x = new ConstantMill();
            // 22 (1 + 1/100 + ..), with E just above what is left
            rules(x, 1, 1, 100, 11, 1);
            x.bound(1, 1, 99);
            x.part(1, 1, 6, 3);
            for (int terms = 1; terms <= 50; terms++) {
                due("22.2222..", x.figures(1, 10, 2 * terms - 3, terms), terms == 1 ? OUTSIDE : 2 * terms - 3);
                due("22.2222..", x.figure(2 * terms - 3), terms == 1 ? NONE : 2);
            }
            due("no 0 TERMS", x.figures(1, 10, 2, 0), OUTSIDE);
            due("100 TERMS", x.figures(1, 10, 100, 100), 100);
            due("no 101", x.figures(1, 10, 2, 101), OUTSIDE);
        });
        on("its E |m / n| times |TERM N - 1| u / (v - u)", () -> {
            // X is 3 / 2, and E as much as BOUND and TERM tell: HIGH is just 2 or just below it
            for (int signs = 0; signs < 4; signs++) {
                ConstantMill x = new ConstantMill();
                rules(x, 0, 1, 1, (signs & 1) == 0 ? 3 : -3, 1);
                x.part(0, 0, (signs & 2) == 0 ? 1 : -1, 2);
                x.bound(0, 1, 4);
                due("E is 1 / 2", x.figures(0, 10, 5, 1), NONE);
                due("yet the SIGN", x.signOf(), signs == 1 || signs == 2 ? -1 : 1);
                x.bound(0, 249999, 1000000);
                due("E is just below it", x.figures(0, 10, 5, 1), 0);
                due("so the WHOLE", x.whole(), 1);
            }
            // the last TERM alone counts: of 1, -1/2, 1/4 X is 3/4 and E 1/4, or just below
            ConstantMill x = new ConstantMill();
            rules(x, 0, -1, 2, 1, 1);
            x.part(0, 0, 4, 1);
            due("3 and 1: 2 to 4", x.figures(0, 10, 5, 3), NONE);
            due("2.5 and 0.5: 2 to 3", x.figures(0, 10, 5, 4), NONE);
            due("2.75 and 0.25: 2.5 to 3", x.figures(0, 10, 5, 5), NONE);
            due("2.625 and 0.125: 2.5 to 2.75", x.figures(0, 10, 5, 6), 0);
            due("2.6875 and 0.0625: 2.625 to 2.75", x.figures(0, 10, 5, 7), 0);
            due("2.65625 and 0.03125: 2.625 to 2.6875", x.figures(0, 10, 5, 8), 1);
        });
        on("X, E of a CONSTANT are the sums of these", () -> {
            ConstantMill x = new ConstantMill();
            rules(x, 0, 1, 1, 1, 1);
            rules(x, 1, 1, 1, 1, 1);
            x.part(0, 0, 15, 2);
            x.part(0, 1, -2, 1);
            x.bound(0, 1, 20);
            x.bound(1, 1, 20);
            due("5.5 more or less 9.5 / 19: 5 to 6", x.figures(0, 10, 5, 1), NONE);
            x.bound(1, 1, 21);
            due("5.5 and a little less: 5", x.figures(0, 10, 5, 1), 0);
            due("whole", x.whole(), 5);
            x.part(0, 0, 0, 1);
            due("a part with m = 0 adds nothing", x.figures(0, 10, 5, 1), 0);
            due("whole", x.whole(), 5);
            // one part's E, 2.99.., is far above its X, and the other's X above or below it
            rules(x, 0, -998, 999, 1, 1);
            x.bound(0, 999999, 1000000);
            rules(x, 1, 0, 1, 1, 1);
            x.clear(0);
            x.part(0, 0, 3, 1000000);
            x.part(0, 1, 7, 2);
            due("3.5", x.figures(0, 10, 5, 2), NONE);
            due("LOW is above 0", x.signOf(), 1);
            x.clear(0);
            x.part(0, 0, 3, 1000000);
            x.part(0, 1, 29, 10);
            due("2.9", x.figures(0, 10, 5, 2), NONE);
            due("LOW is below 0", x.signOf(), 0);
        });
        on("LOW is X - E, HIGH X + E.", () -> {
            ConstantMill x = new ConstantMill();
            between(x, 0, 1250, 1259, 1000);
            due("1.25 to 1.259", x.figures(0, 10, 9, 1), 2);
            due("both have 1.25", result(x), "+1.25");
            between(x, 0, 1249, 1258, 1000);
            due("1.249 to 1.258", x.figures(0, 10, 9, 1), 1);
            between(x, 0, 1251, 1260, 1000);
            due("1.251 to 1.26", x.figures(0, 10, 9, 1), 1);
        });
    }

    private static void figures() {
        on("FIGURES in a base (2 to 36), with N TERMS, at most n", () -> {
            ConstantMill x = new ConstantMill();
            for (int base = 2; base <= 36; base++) {
                // (base - 1) / base and one figure more: 0.z1
                exactly(x, 0, base * (base - 1) + 1, base * base);
                due("base " + base, x.figures(0, base, 4, 2), 4);
                due("first", x.figure(1), base - 1);
                due("second", x.figure(2), 1);
                due("third", x.figure(3), 0);
                due("at most 1", x.figures(0, base, 1, 2), 1);
                due("at most 0", x.figures(0, base, 0, 2), 0);
            }
            due("base 1", x.figures(0, 1, 4, 2), OUTSIDE);
            due("base 37", x.figures(0, 37, 4, 2), OUTSIDE);
        });
        on("if LOW is above 0: of LOW and HIGH", () -> {
            ConstantMill x = new ConstantMill();
            between(x, 0, 1, 2, 100000);
            due("0.00001 to 0.00002", x.figures(0, 10, 9, 1), 4);
            due("as it is", result(x), "+0.0000");
            between(x, 0, 0, 2, 100000);
            due("LOW is 0", x.figures(0, 10, 9, 1), NONE);
            due("0 to 0.00002", result(x), "0 none");
            between(x, 0, -1, 2, 100000);
            due("LOW is below 0", x.figures(0, 10, 9, 1), NONE);
            due("-0.00001 to 0.00002", result(x), "0 none");
        });
        on("if HIGH is below 0: of -HIGH and -LOW, and the SIGN is -1", () -> {
            ConstantMill x = new ConstantMill();
            between(x, 0, -2, -1, 100000);
            due("-0.00002 to -0.00001", x.figures(0, 10, 9, 1), 4);
            due("as it is", result(x), "-0.0000");
            between(x, 0, -2, 0, 100000);
            due("HIGH is 0", x.figures(0, 10, 9, 1), NONE);
            due("-0.00002 to 0", result(x), "0 none");
            between(x, 0, -2, 1, 100000);
            due("HIGH is above 0", x.figures(0, 10, 9, 1), NONE);
            due("-0.00002 to 0.00001", result(x), "0 none");
            between(x, 0, -2718, -2716, 1000);
            due("-2.718 to -2.716", x.figures(0, 10, 9, 1), 2);
            due("as it is", result(x), "-2.71");
            // 2.7 is LOW's first figure, were it cut the other way
            between(x, 0, -2700, -2699, 1000);
            due("-2.7 to -2.699", x.figures(0, 10, 9, 1), 0);
            due("as it is", result(x), "-2.");
        });
        on("else none is SURE, and the SIGN is 0 (without parts, too)", () -> {
            ConstantMill x = new ConstantMill();
            eulers(x, 0, 0);
            x.figures(0, 10, 9, 30);
            due("none", x.figures(1, 10, 9, 30), NONE);
            due("without parts", result(x), "0 none");
            due("whole", x.whole(), 0);
            due("figure", x.figure(1), NONE);
            x.figures(0, 10, 9, 30);
            exactly(x, 1, 0, 7);
            due("m is 0", x.figures(1, 10, 9, 30), NONE);
            due("0", result(x), "0 none");
            x.figures(0, 10, 9, 30);
            exactly(x, 1, 5, 7);
            x.part(1, 1, -5, 7);
            due("two parts", x.figures(1, 10, 9, 30), NONE);
            due("are 0", result(x), "0 none");
        });
        wholes();
    }

    private static void wholes() {
        on("The WHOLE is SURE, if the whole parts are the same (and below 2 to the 62)", () -> {
            ConstantMill x = new ConstantMill();
            between(x, 0, 1000, 1999, 1000);
            due("1 to 1.999", x.figures(0, 10, 9, 1), 0);
            due("1", result(x), "+1.");
            between(x, 0, 1000, 2000, 1000);
            due("1 to 2", x.figures(0, 10, 9, 1), NONE);
            due("none", result(x), "+ none");
            due("none", x.whole(), 0);
            between(x, 0, 999, 1998, 1000);
            due("0.999 to 1.998", x.figures(0, 10, 9, 1), NONE);
            due("none", result(x), "+ none");
            between(x, 0, 999, 1000, 1000);
            due("0.999 to 1", x.figures(0, 10, 9, 1), NONE);
            between(x, 0, -1000, -999, 1000);
            due("-1 to -0.999", x.figures(0, 10, 9, 1), NONE);
            due("none", result(x), "- none");
            between(x, 0, 1, 999, 1000);
            due("0.001 to 0.999", x.figures(0, 10, 9, 1), 0);
            due("a WHOLE that is 0", result(x), "+0.");
            large(x);
        });
        on("behind it figures are SURE as long as both have the same, n (0 to 100) at most.", () -> {
            ConstantMill x = new ConstantMill();
            between(x, 0, 31415, 31419, 10000);
            due("3.1415 and 3.1419", x.figures(0, 10, 9, 1), 3);
            due("same", result(x), "+3.141");
            due("at most 2", x.figures(0, 10, 2, 1), 2);
            due("same", result(x), "+3.14");
            due("at most 0", x.figures(0, 10, 0, 1), 0);
            between(x, 0, 31415, 31425, 10000);
            due("3.1415 and 3.1425: same again is not counted", x.figures(0, 10, 9, 1), 2);
            due("same", result(x), "+3.14");
            due("figure", x.figure(4), NONE);
            exactly(x, 0, 1, 3);
            due("at most 100", x.figures(0, 10, 100, 2), 100);
            due("figure", x.figure(100), 3);
            due("at most 101", x.figures(0, 10, 101, 2), OUTSIDE);
            due("at most -1", x.figures(0, 10, -1, 2), OUTSIDE);
            due("and so they stay", x.figure(100), 3);
        });
        on("(Cut down, not rounded. So each number from LOW to HIGH has all that is SURE.)", () -> {
            ConstantMill x = new ConstantMill();
            exactly(x, 0, 2, 3);
            x.figures(0, 10, 5, 2);
            due("2 / 3", result(x), "+0.66666");
            exactly(x, 0, -2, 3);
            x.figures(0, 10, 5, 2);
            due("-2 / 3", result(x), "-0.66666");
            exactly(x, 0, 999999, 500000);
            due("1.999998", x.figures(0, 10, 0, 2), 0);
            due("1", result(x), "+1.");
            between(x, 0, 6660, 6669, 10000);
            due("0.666 to 0.6669", x.figures(0, 10, 5, 1), 3);
            due("0.666", result(x), "+0.666");
            between(x, 0, 6661, 6670, 10000);
            due("0.6661 to 0.667", x.figures(0, 10, 5, 1), 2);
            for (int i = 0; i < 60; i++) {
                exactFraction(999983 - 16661 * i, 1000000 - 7 * i, 1 + 17 * i, 2 + 34 * i % 35);
            }
            // 0.5 in base 3 is 0.111.., in base 2 0.1
            exactly(x, 0, 1, 2);
            x.figures(0, 3, 7, 2);
            due("in base 3", result(x), "+0.1111111");
            x.figures(0, 2, 7, 2);
            due("in base 2", result(x), "+0.1000000");
        });
        on("THE RESULT is that of the latest figures() that went; it stays whatever is changed behind it.",
                TermsEdgeTest::latest);
    }

    /** WHOLES beyond an int, told exactly: (99 - k) / 99 from 0 to 99 is 50 in all. */
    private static void large(ConstantMill x) {
        rules(x, 5, 0, 0, 999, 1);
        x.rule(5, 0, 99, -1, 0);
        x.rule(5, 1, 100, -1, 0);
        x.bound(5, 98, 99);
        for (int parts = 1; parts <= 4; parts++) {
            x.part(1, 5, 1000000, 1);
            due("all", x.figures(1, 10, 3, 100), 3);
            due("whole", x.whole(), parts * 50L * 999 * 1000000);
        }
        x.clear(1);
        for (int parts = 1; parts <= 4; parts++) {
            x.part(1, 5, -999983, parts == 4 ? 999999 : 1);
        }
        due("all", x.figures(1, 10, 6, 100), 6);
        due("below 0", result(x), "-149847502499.200799");
    }

    /** m / n times 1 / b, of which 100 figures are asked; its BOUND is a long one, too. */
    private static void exactFraction(int m, int n, int b, int base) {
        ConstantMill x = new ConstantMill();
        rules(x, 0, 0, 1, 1, b > 999 ? 999 : b);
        x.bound(0, 1, 999999 - b);
        x.part(0, 0, m, n);
        due("all", x.figures(0, base, 100, 2), 100);
        long below = (long) n * (b > 999 ? 999 : b);
        long rest = Math.abs(m) % below;
        due("whole", x.whole(), Math.abs(m) / below);
        for (int i = 1; i <= 100; i++) {
            rest *= base;
            due("figure " + i + " of " + m + " / " + below, x.figure(i), rest / below);
            rest %= below;
        }
    }

    private static void latest() {
        ConstantMill x = Furnished.make();
        x.figures(1, 10, 9, 30);
        String first = result(x);
        due("e - 1 and 15 / 196", first, "+1.794812440");
        x.rule(2, 2, 2, 0, 0);
        x.rule(0, 2, 2, 0, 0);
        x.bound(2, 3, 4);
        x.part(1, 3, 1, 1);
        due("rules, bound, part", result(x), first);
        x.clear(1);
        x.grind(0, 3, 0, 9);
        x.empty(3);
        due("clear, grind, empty", result(x), first);
        x.need(3, 7, 5);
        x.agree(0, 3, 7, 5, 5);
        due("need, agree", result(x), first);
        due("falls", x.figures(2, 10, 9, 30), -104);
        due("refused", x.figures(4, 10, 9, 30), UNKNOWN);
        due("refused", x.figures(0, 37, 9, 30), OUTSIDE);
        due("these did not go", result(x), first);
        due("of what", x.about(0), 1);
        due("went, though none is SURE", x.figures(1, 7, 8, 29), NONE);
        due("the latest", result(x), "0 none");
        due("of what", x.about(1), 7);
    }

    private static void faces() {
        free("Ahead of the calls rule, bound, at, falls the interface says: ---- sums.");
        free("Ahead of the calls grind, more, join, empty, span, bits, sign, rest, word, same the interface "
                + "says: ---- drawers.");
        free("Ahead of the calls part, clear, told, figures, need the interface says: ---- constants.");
        on("Ahead of the calls signOf, whole, figure, count, where, about, agree the interface says: "
                + "---- the result; 0 without it.", () -> {
            ConstantMill x = new ConstantMill();
            due("signOf", x.signOf(), 0);
            due("whole", x.whole(), 0);
            for (int figure = 0; figure < 36; figure++) {
                due("count", x.count(figure), 0);
            }
            // these have words of their own for it
            due("figure", x.figure(1), NONE);
            due("where", x.where(0, 1), NONE);
            due("about", x.about(0), STATE);
            due("agree asks for none", x.agree(0, 1, 10, 5, 5), NONE);
        });
    }

    public static void main(String[] args) {
        whatItIs();
        answers();
        sums();
        spans();
        constants();
        figures();
        faces();
        everyPromise();
        end();
    }
}
