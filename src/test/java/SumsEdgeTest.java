/** Promises 1 to 5, sentence by sentence. */
public final class SumsEdgeTest extends Edges {
    private static void newObject() {
        promise(1, "A new object");
        on("RULES are 0", () -> {
            ConstantMill x = new ConstantMill();
            for (int s = 0; s < 6; s++) {
                for (int which = 0; which < 4; which++) {
                    due("at 1", x.at(s, which, 1), 0);
                    due("at 99", x.at(s, which, 99), 0);
                    due("at 0", x.at(s, which, 0), which < 2 ? 1 : 0);
                }
                due("b(0) is 0", x.falls(s, 100), 0);
            }
        });
        on("DRAWERS empty", () -> {
            ConstantMill x = new ConstantMill();
            for (int d = 0; d < 8; d++) {
                due("span", x.span(d, 0), STATE);
                due("empty", x.empty(d), STATE);
            }
            due("none of sum 0", x.rule(0, 0, 1, 0, 0), 0);
        });
        on("CONSTANTS without parts", () -> {
            ConstantMill x = new ConstantMill();
            for (int c = 0; c < 4; c++) {
                due("told", x.told(c, 0, 0), NO_SUCH);
                due("clear", x.clear(c), 0);
                due("the first", x.part(c, 0, 1, 1), 1);
            }
        });
    }

    private static void rule() {
        promise(2, "rule");
        on("A RULE (0 to 3) of a SUM", () -> {
            for (int i = 0; i < 6 * 4; i++) {
                int s = i / 4;
                int which = i % 4;
                ConstantMill x = new ConstantMill();
                due("goes", x.rule(s, which, 7, 11, 13), 0);
                for (int j = 0; j < 6 * 4; j++) {
                    due("at 3 of " + j / 4 + " " + j % 4, x.at(j / 4, j % 4, 3), i == j ? 7 + 33 + 117 : 0);
                }
            }
            Furnished.changes("first", 3, x -> x.rule(0, 2, 1, 1, 1), "sum 0", "drawer 0", "drawer 1", "drawer 4");
            Furnished.changes("last, all zero", 0, x -> x.rule(5, 3, 1, 0, 0), "sum 5");
            Furnished.keeps("which -1", OUTSIDE, x -> x.rule(0, -1, 1, 1, 1));
            Furnished.keeps("which 4", OUTSIDE, x -> x.rule(0, 4, 1, 1, 1));
            Furnished.keeps("which MIN", OUTSIDE, x -> x.rule(0, LEAST, 1, 1, 1));
            Furnished.keeps("which MAX", OUTSIDE, x -> x.rule(0, MOST, 1, 1, 1));
        });
        on("how many of its DRAWERS were emptied", () -> {
            ConstantMill x = new ConstantMill();
            rules(x, 2, 0, 1, 1, 1);
            due("none", x.rule(2, 0, 0, 0, 0), 0);
            for (int d = 0; d < 8; d++) {
                due("grind", x.grind(d, 2, d, 2 * d), d);
            }
            due("all", x.rule(2, 0, 0, 1, 0), 8);
            due("none of them again", x.rule(2, 0, 0, 1, 0), 0);
            x.grind(3, 2, 0, 1);
            due("none by another sum", x.rule(1, 0, 0, 1, 0), 0);
            due("none by a refused one", x.rule(2, 0, 1000, 0, 0), OUTSIDE);
            due("one", x.rule(2, 3, 2, 0, 0), 1);
        });
        on("UNKNOWN", () -> {
            for (int s : new int[] {-1, 6, LEAST, MOST}) {
                Furnished.keeps("sum " + s, UNKNOWN, x -> x.rule(s, 0, 1, 1, 1));
                Furnished.keeps("and all else wrong", UNKNOWN, x -> x.rule(s, 4, 1000, 1000, 1000));
            }
        });
        on("OUTSIDE", () -> {
            for (int c : new int[] {-1000, 1000, LEAST, MOST}) {
                for (int which = 0; which < 4; which++) {
                    int w = which;
                    Furnished.keeps("c0 " + c, OUTSIDE, x -> x.rule(0, w, c, 1, 1));
                    Furnished.keeps("c1 " + c, OUTSIDE, x -> x.rule(0, w, 1, c, 1));
                    Furnished.keeps("c2 " + c, OUTSIDE, x -> x.rule(0, w, 1, 1, c));
                }
            }
        });
    }

    private static void bound() {
        promise(3, "bound");
        on("The BOUND of a SUM", () -> {
            for (int s = 0; s < 6; s++) {
                ConstantMill x = new ConstantMill();
                for (int i = 0; i < 6; i++) {
                    rules(x, i, 3, 4, 1, 1);
                }
                due("goes", x.bound(s, 3, 4), 0);
                for (int i = 0; i < 6; i++) {
                    due("3 / 4 in sum " + i, x.falls(i, 100), i == s ? NONE : 1);
                }
            }
            Furnished.changes("wider", 1, x -> x.bound(1, 1, 2), "sum 1", "drawer 2");
        });
        on("how many of its DRAWERS were emptied", () -> {
            ConstantMill x = new ConstantMill();
            rules(x, 2, 0, 1, 1, 1);
            due("none", x.bound(2, 1, 3), 0);
            for (int d = 0; d < 8; d++) {
                due("grind", x.grind(d, 2, d, 2 * d), d);
            }
            due("none by another sum", x.bound(3, 1, 3), 0);
            due("none by a refused one", x.bound(2, 3, 3), OUTSIDE);
            due("all", x.bound(2, 1, 4), 8);
            due("none of them again", x.bound(2, 1, 5), 0);
        });
        on("UNKNOWN", () -> {
            for (int s : new int[] {-1, 6, LEAST, MOST}) {
                Furnished.keeps("sum " + s, UNKNOWN, x -> x.bound(s, 1, 2));
                Furnished.keeps("and all else wrong", UNKNOWN, x -> x.bound(s, 0, 0));
            }
        });
        on("OUTSIDE: not 1 <= u < v <= 1000000", () -> {
            Furnished.keeps("u 0", OUTSIDE, x -> x.bound(0, 0, 2));
            Furnished.keeps("u -1", OUTSIDE, x -> x.bound(0, -1, 2));
            Furnished.keeps("both below 0", OUTSIDE, x -> x.bound(0, -2, -1));
            Furnished.keeps("u MIN, v - u wraps", OUTSIDE, x -> x.bound(0, LEAST, 1));
            Furnished.keeps("u is v", OUTSIDE, x -> x.bound(0, 7, 7));
            Furnished.keeps("both a million", OUTSIDE, x -> x.bound(0, 1000000, 1000000));
            Furnished.keeps("u above v", OUTSIDE, x -> x.bound(0, 8, 7));
            Furnished.keeps("v MIN", OUTSIDE, x -> x.bound(0, 1, LEAST));
            Furnished.keeps("v a million and one", OUTSIDE, x -> x.bound(0, 1, 1000001));
            Furnished.keeps("v MAX", OUTSIDE, x -> x.bound(0, 1, MOST));
            Furnished.keeps("both far", OUTSIDE, x -> x.bound(0, MOST - 1, MOST));
            Furnished.changes("least", 1, x -> x.bound(1, 1, 2), "sum 1", "drawer 2");
            Furnished.changes("narrowest", 1, x -> x.bound(1, 1, 1000000), "sum 1", "drawer 2");
            Furnished.changes("widest", 1, x -> x.bound(1, 999999, 1000000), "sum 1", "drawer 2");
        });
    }

    private static void at() {
        promise(4, "at");
        on("A RULE's value at k", () -> {
            ConstantMill x = new ConstantMill();
            for (int which = 0; which < 4; which++) {
                x.rule(3, which, which - 999, 999 - which, which - 2);
                for (int k = 0; k < 100; k++) {
                    int value = which - 999 + (999 - which) * k + (which - 2) * k * k;
                    due("at " + k, x.at(3, which, k), k == 0 && which < 2 ? 1 : value);
                }
            }
            x.rule(0, 2, 999, 999, 999);
            x.rule(0, 3, -999, -999, -999);
            due("highest", x.at(0, 2, 99), 999 * 9901);
            due("deepest", x.at(0, 3, 99), -999 * 9901);
            Furnished.keeps("asking", 3 + 6 * 99, y -> y.at(3, 3, 99));
        });
        on("UNKNOWN (-1000000001: also which)", () -> {
            for (int bad : new int[] {-1, 6, LEAST, MOST}) {
                Furnished.keeps("sum", NO_SUCH, x -> x.at(bad, 0, 0));
                Furnished.keeps("sum, and all else wrong", NO_SUCH, x -> x.at(bad, 4, 100));
            }
            for (int bad : new int[] {-1, 4, LEAST, MOST}) {
                Furnished.keeps("which", NO_SUCH, x -> x.at(5, bad, 99));
                Furnished.keeps("which, and k wrong", NO_SUCH, x -> x.at(0, bad, -1));
            }
        });
        on("OUTSIDE: k is not 0 to 99 (-1000000002)", () -> {
            for (int bad : new int[] {-1, 100, LEAST, MOST}) {
                for (int which = 0; which < 4; which++) {
                    int w = which;
                    Furnished.keeps("k", NOT_THERE, x -> x.at(0, w, bad));
                }
            }
            Furnished.keeps("0", 5, x -> x.at(0, 2, 0));
            Furnished.keeps("99", 5, x -> x.at(0, 2, 99));
        });
    }

    private static void falls() {
        promise(5, "falls");
        on("The least k from 0 to n - 1 (n: 0 to 100) at which the SUM FALLS", () -> {
            for (int k = 0; k < 100; k++) {
                ConstantMill y = new ConstantMill();
                fallsAt(y, 0, k);
                due("just not asked " + k, y.falls(0, k), NONE);
                due("just asked " + k, y.falls(0, k + 1), k);
                due("at n 100 " + k, y.falls(0, 100), k);
            }
            ConstantMill x = new ConstantMill();
            // q and b are squares, each 0 at one or two places: the least of these
            rules(x, 1, 0, 1, 1, 1);
            x.rule(1, 1, 300, -40, 1);
            x.rule(1, 3, 400, -40, 1);
            due("q is 0 at 10 and 30, b at 20", x.falls(1, 100), 10);
            x.rule(1, 1, 600, -50, 1);
            due("q is 0 at 20 and 30, b at 20", x.falls(1, 100), 20);
            x.rule(1, 1, 675, -60, 1);
            due("q is 0 at 15 and 45, b at 20", x.falls(1, 100), 15);
            x.rule(1, 1, 1, 0, 0);
            due("b alone", x.falls(1, 100), 20);
            Furnished.keeps("n 0", NONE, y -> y.falls(5, 0));
            Furnished.keeps("n 1", 0, y -> y.falls(5, 1));
            Furnished.keeps("n 100", 4, y -> y.falls(4, 100));
        });
        on("(as of the SPAN from 0)", () -> {
            ConstantMill x = new ConstantMill();
            // at 0 nothing is asked of p, a and the BOUND; at 1 it is
            rules(x, 0, 9, 1, 9, 1);
            due("one", x.falls(0, 1), NONE);
            due("two", x.falls(0, 2), 1);
            // q(0) is 1, whatever its rule tells
            rules(x, 1, 0, 0, 1, 1);
            due("q(0)", x.falls(1, 1), NONE);
            due("q(1)", x.falls(1, 2), 1);
            // a SPAN that begins where it falls does not
            rules(x, 2, 1, 2, 1, 1);
            x.rule(2, 2, 1, 2, 0);
            due("a goes from 1 to 3", x.falls(2, 100), 1);
            due("from 1 on it goes to 5", x.grind(0, 2, 1, 2), 1);
        });
        on("NONE", () -> {
            ConstantMill x = new ConstantMill();
            geometric(x, 5, 998, 999);
            for (int n = 0; n <= 100; n++) {
                due("n " + n, x.falls(5, n), NONE);
            }
        });
        on("UNKNOWN", () -> {
            for (int bad : new int[] {-1, 6, LEAST, MOST}) {
                Furnished.keeps("sum", UNKNOWN, x -> x.falls(bad, 0));
                Furnished.keeps("sum, n wrong", UNKNOWN, x -> x.falls(bad, 101));
            }
        });
        on("OUTSIDE", () -> {
            for (int bad : new int[] {-1, 101, LEAST, MOST}) {
                Furnished.keeps("n", OUTSIDE, x -> x.falls(0, bad));
                Furnished.keeps("n, it falls", OUTSIDE, x -> x.falls(5, bad));
            }
        });
    }

    public static void main(String[] args) {
        newObject();
        rule();
        bound();
        at();
        falls();
        end();
    }
}
