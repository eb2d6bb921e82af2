/** Promises 16 to 20, sentence by sentence. */
public final class ConstantsEdgeTest extends Edges {
    private static final int[] NO_CONSTANT = {-1, 4, LEAST, MOST};

    private static void part() {
        promise(16, "part");
        on("A part more of a CONSTANT: how many it has.", () -> {
            ConstantMill x = new ConstantMill();
            for (int c = 0; c < 4; c++) {
                for (int i = 1; i <= 4; i++) {
                    due("so many", x.part(c, c + i - 2 < 0 ? 5 : c + i - 2, c * i, i + c), i);
                }
            }
            for (int c = 0; c < 4; c++) {
                for (int i = 1; i <= 4; i++) {
                    due("its sum", x.told(c, i - 1, 0), c + i - 2 < 0 ? 5 : c + i - 2);
                    due("its m", x.told(c, i - 1, 1), c * i);
                    due("its n", x.told(c, i - 1, 2), i + c);
                }
            }
            Furnished.changes("the first", 1, y -> y.part(3, 5, 7, 9), "constant 3");
            Furnished.changes("the third", 3, y -> y.part(1, 0, 7, 9), "constant 1");
            Furnished.changes("the least of all", 1, y -> y.part(3, 0, -1000000, 1), "constant 3");
            Furnished.changes("m is 0", 1, y -> y.part(3, 0, 0, 1000000), "constant 3");
            Furnished.changes("the most of all", 1, y -> y.part(3, 0, 1000000, 1000000), "constant 3");
        });
        on("UNKNOWN", () -> {
            for (int bad : NO_CONSTANT) {
                Furnished.keeps("constant " + bad, UNKNOWN, x -> x.part(bad, 0, 1, 1));
                Furnished.keeps("and all else", UNKNOWN, x -> x.part(bad, 6, 1000001, 0));
            }
            for (int bad : new int[] {-1, 6, LEAST, MOST}) {
                Furnished.keeps("sum " + bad, UNKNOWN, x -> x.part(3, bad, 1, 1));
                Furnished.keeps("and n", UNKNOWN, x -> x.part(3, bad, 1, 0));
                Furnished.keeps("and it is full", UNKNOWN, x -> x.part(0, bad, 1, 1));
            }
        });
        on("OUTSIDE: m is not -1000000 to 1000000", () -> {
            for (int bad : new int[] {-1000001, 1000001, LEAST, LEAST + 1, MOST}) {
                Furnished.keeps("m " + bad, OUTSIDE, x -> x.part(3, 0, bad, 1));
                Furnished.keeps("full, m " + bad, OUTSIDE, x -> x.part(0, 0, bad, 1));
            }
        });
        on("n not 1 to 1000000", () -> {
            for (int bad : new int[] {0, -1, 1000001, LEAST, MOST}) {
                Furnished.keeps("n " + bad, OUTSIDE, x -> x.part(3, 0, 1, bad));
                Furnished.keeps("full, n " + bad, OUTSIDE, x -> x.part(0, 0, 1, bad));
            }
        });
        on("FULL: 4.", () -> {
            Furnished.keeps("a fifth", FULL, x -> x.part(0, 5, 0, 1));
            ConstantMill x = new ConstantMill();
            for (int c = 0; c < 4; c++) {
                for (int i = 1; i <= 4; i++) {
                    due("not yet", x.part(c, 0, i, 1), i);
                }
                due("full", x.part(c, 0, 5, 1), FULL);
            }
            x.clear(2);
            due("not any more", x.part(2, 0, 6, 1), 1);
            due("the others are", x.part(3, 0, 6, 1), FULL);
        });
    }

    private static void clear() {
        promise(17, "clear");
        on("A CONSTANT has no parts", () -> {
            Furnished.changes("four", 4, x -> x.clear(0), "constant 0");
            Furnished.changes("one", 1, x -> x.clear(2), "constant 2");
            Furnished.keeps("none", 0, x -> x.clear(3));
            ConstantMill x = Furnished.make();
            x.clear(0);
            due("no part", x.told(0, 0, 0), NO_SUCH);
            due("so none is SURE", x.figures(0, 10, 5, 20), NONE);
            due("nor does it fall", x.clear(2), 1);
            due("nor does it fall", x.figures(2, 10, 5, 20), NONE);
            x.part(0, 3, 7, 9);
            due("its first is", x.told(0, 0, 1), 7);
            due("and none of those before", x.told(0, 1, 1), NO_SUCH);
        });
        on("how many it had.", () -> {
            ConstantMill x = new ConstantMill();
            for (int n = 0; n <= 4; n++) {
                for (int c = 0; c < 4; c++) {
                    for (int i = 1; i <= n; i++) {
                        x.part(c, 0, 1, 1);
                    }
                    due("it had", x.clear(c), n);
                    due("it has none", x.clear(c), 0);
                }
            }
            for (int i = 1; i <= 5; i++) {
                x.part(0, 0, 1, 1);
            }
            due("a refused one does not count", x.clear(0), 4);
        });
        on("UNKNOWN.", () -> {
            for (int bad : NO_CONSTANT) {
                Furnished.keeps("constant " + bad, UNKNOWN, x -> x.clear(bad));
            }
        });
    }

    private static void told() {
        promise(18, "told");
        on("Of a part: 0 the SUM, 1 m, 2 n.", () -> {
            Furnished.keeps("the first's SUM", 0, x -> x.told(0, 0, 0));
            Furnished.keeps("the last's SUM", 3, x -> x.told(0, 3, 0));
            Furnished.keeps("m", -2, x -> x.told(0, 1, 1));
            Furnished.keeps("n", 3, x -> x.told(0, 1, 2));
            ConstantMill x = new ConstantMill();
            x.part(1, 5, -1000000, 999999);
            x.part(1, 0, 1000000, 1000000);
            due("least", x.told(1, 0, 1), -1000000);
            due("most", x.told(1, 1, 1), 1000000);
            due("as it was told, not shortened", x.told(1, 1, 2), 1000000);
            due("SUM", x.told(1, 0, 0), 5);
        });
        on("UNKNOWN (-1000000001)", () -> {
            for (int bad : NO_CONSTANT) {
                Furnished.keeps("constant " + bad, NO_SUCH, x -> x.told(bad, 0, 0));
                Furnished.keeps("and all else", NO_SUCH, x -> x.told(bad, 4, 3));
                Furnished.keeps("part " + bad, NO_SUCH, x -> x.told(0, bad, 0));
                Furnished.keeps("and what", NO_SUCH, x -> x.told(0, bad, 3));
            }
            Furnished.keeps("the last of two", 7, x -> x.told(1, 1, 2));
            Furnished.keeps("two have no third", NO_SUCH, x -> x.told(1, 2, 2));
            Furnished.keeps("none have no first", NO_SUCH, x -> x.told(3, 0, 0));
        });
        on("OUTSIDE (-1000000002).", () -> {
            for (int bad : new int[] {-1, 3, LEAST, MOST}) {
                Furnished.keeps("what " + bad, NOT_THERE, x -> x.told(0, 0, bad));
                Furnished.keeps("what " + bad, NOT_THERE, x -> x.told(0, 3, bad));
            }
        });
    }

    private static void figures() {
        promise(19, "figures");
        on("FIGURES: how many behind the point are SURE", () -> {
            Furnished.changes("20", 20, x -> x.figures(1, 16, 20, 90), "result");
            Furnished.changes("none asked for: 0", 0, x -> x.figures(1, 16, 0, 90), "result");
            Furnished.keeps("as it was", 6, x -> x.figures(0, 10, 30, 20));
            ConstantMill x = new ConstantMill();
            eulers(x, 0, 0);
            due("all", x.figures(0, 10, 50, 60), 50);
            due("e - 1", result(x), "+1.71828182845904523536028747135266249775724709369995");
            due("1.71825.. to 1.71830..", x.figures(0, 10, 50, 8), 3);
            due("those", result(x), "+1.718");
            due("in base 2", x.figures(0, 2, 50, 8), 10);
            due("in base 36", x.figures(0, 36, 50, 8), 2);
            due("the most terms", x.figures(0, 36, 100, 100), 100);
            due("one term: 1 more or less 1", x.figures(0, 10, 50, 1), NONE);
        });
        on("NONE: not even the WHOLE.", () -> {
            Furnished.changes("without parts", NONE, x -> x.figures(3, 10, 5, 5), "result");
            ConstantMill x = new ConstantMill();
            between(x, 0, 19, 20, 10);
            due("1.9 to 2", x.figures(0, 10, 5, 1), NONE);
            due("the SIGN", result(x), "+ none");
            between(x, 0, 190, 199, 100);
            due("1.9 to 1.99", x.figures(0, 10, 5, 1), 1);
            between(x, 0, 0, 1, 10);
            due("0 to 0.1", x.figures(0, 10, 5, 1), NONE);
            due("no SIGN", result(x), "0 none");
            between(x, 0, 1, 9, 10);
            due("0.1 to 0.9: the WHOLE is", x.figures(0, 10, 5, 1), 0);
        });
        on("UNKNOWN", () -> {
            for (int bad : NO_CONSTANT) {
                Furnished.keeps("constant " + bad, UNKNOWN, x -> x.figures(bad, 10, 5, 5));
                Furnished.keeps("and all else", UNKNOWN, x -> x.figures(bad, 1, 101, 0));
            }
        });
        on("OUTSIDE: base, n, N", () -> {
            for (int bad : new int[] {1, 0, -1, 37, LEAST, MOST}) {
                Furnished.keeps("base " + bad, OUTSIDE, x -> x.figures(0, bad, 5, 5));
                Furnished.keeps("without parts", OUTSIDE, x -> x.figures(3, bad, 5, 5));
            }
            for (int bad : new int[] {-1, 101, LEAST, MOST}) {
                Furnished.keeps("n " + bad, OUTSIDE, x -> x.figures(0, 10, bad, 5));
                Furnished.keeps("falling", OUTSIDE, x -> x.figures(2, 10, bad, 5));
            }
            for (int bad : new int[] {0, -1, 101, LEAST, MOST}) {
                Furnished.keeps("N " + bad, OUTSIDE, x -> x.figures(0, 10, 5, bad));
                Furnished.keeps("falling", OUTSIDE, x -> x.figures(2, 10, 5, bad));
            }
            Furnished.changes("the least of each", NONE, x -> x.figures(0, 2, 0, 1), "result");
            Furnished.changes("the most of each", 25, x -> x.figures(0, 36, 100, 100), "result");
        });
        on("FALLS: a SUM of a part, the first such part's, from 0 to N - 1.", () -> {
            Furnished.keeps("5 TERMS", -104, x -> x.figures(2, 10, 5, 5));
            Furnished.keeps("100 TERMS", -104, x -> x.figures(2, 10, 5, 100));
            Furnished.changes("4 TERMS", 1, x -> x.figures(2, 10, 1, 4), "result");
            ConstantMill x = new ConstantMill();
            rules(x, 0, 0, 1, 1, 1);
            fallsAt(x, 1, 9);
            fallsAt(x, 2, 6);
            fallsAt(x, 3, 99);
            x.part(0, 0, 1, 1);
            x.part(0, 1, 1, 1);
            x.part(0, 2, 1, 1);
            x.part(0, 3, 1, 1);
            due("100: the first, not the least", x.figures(0, 10, 5, 100), -109);
            due("10", x.figures(0, 10, 5, 10), -109);
            due("9: the next", x.figures(0, 10, 5, 9), -106);
            due("7", x.figures(0, 10, 5, 7), -106);
            due("6: none", x.figures(0, 10, 5, 6) >= NONE);
            x.clear(0);
            x.part(0, 3, 0, 1);
            due("the last of all", x.figures(0, 10, 5, 100), -199);
            due("just not", x.figures(0, 10, 5, 99), NONE);
            x.part(0, 5, 1, 1);
            due("at 0", x.figures(0, 10, 5, 1), -100);
            // by its BOUND
            rules(x, 4, 1, 3, 5, 1);
            x.bound(4, 1, 3);
            x.part(1, 4, 1, 7);
            due("just within it", x.figures(1, 10, 0, 100), 0);
            x.bound(4, 333333, 1000000);
            due("beyond it at 1", x.figures(1, 10, 0, 100), -101);
            due("beyond it at 1", x.figures(1, 10, 0, 2), -101);
            due("0 alone is not asked", x.figures(1, 10, 0, 1), NONE);
        });
    }

    private static void need() {
        promise(20, "need");
        on("The least N (1 to 100) with which a CONSTANT has n SURE figures behind the point", () -> {
            ConstantMill x = new ConstantMill();
            // 1/9, each TERM a tenth of the one before, so that each is worth a figure
            rules(x, 0, 1, 10, 1, 10);
            x.bound(0, 1, 10);
            x.part(0, 0, 1, 1);
            for (int n = 1; n <= 98; n += 8) {
                int terms = x.need(0, 10, n);
                due("enough", x.figures(0, 10, 100, terms) >= n);
                due("one less is not", terms > 1 && x.figures(0, 10, 100, terms - 1) < n);
            }
            // with one TERM: 0.1250 to 0.1251
            between(x, 1, 1250, 1251, 10000);
            due("one TERM", x.need(1, 10, 3), 1);
            due("it has three", x.figures(1, 10, 9, 1), 3);
            exactly(x, 2, 1, 8);
            due("exact with two", x.need(2, 10, 100), 2);
            // its last ratio is 0, so that with 100 TERMS it is 50 exactly
            rules(x, 3, 0, 0, 1, 1);
            x.rule(3, 0, 99, -1, 0);
            x.rule(3, 1, 100, -1, 0);
            x.bound(3, 98, 99);
            x.part(3, 3, 1, 1);
            due("only with 100", x.need(3, 10, 100), 100);
            due("only with 100", x.need(3, 2, 0), 100);
        });
        on("(the WHOLE, with n = 0)", () -> {
            ConstantMill x = new ConstantMill();
            eulers(x, 0, 0);
            due("1 to 2 is not, 19/12 to 21/12 is", x.need(0, 10, 0), 3);
            due("it is", x.figures(0, 10, 0, 3), 0);
            due("it is not", x.figures(0, 10, 0, 2), NONE);
            between(x, 1, 1, 9, 10);
            due("0.1 to 0.9", x.need(1, 10, 0), 1);
            exactly(x, 2, 0, 1);
            due("0 is never told", x.need(2, 10, 0), NO);
        });
        on("up to the first N with which a SUM FALLS", () -> {
            ConstantMill x = new ConstantMill();
            for (int k = 1; k <= 4; k++) {
                // the sum of 1/100 to the k times 1 / (4 - m), which falls where it is 0
                rules(x, 0, 1, 100, 1, 1);
                x.rule(0, 3, k, -1, 0);
                x.bound(0, 1, 40);
                x.clear(0);
                x.part(0, 0, 2, 7);
                due("falls", x.falls(0, 100), k);
                int most = x.figures(0, 10, 100, k);
                due("so many", x.need(0, 10, most), k);
                due("one more never", x.need(0, 10, most + 1), NO);
            }
            // the second part falls first, and the first before the second's need
            eulers(x, 1, 1);
            due("e - 1 alone", x.need(1, 10, 10), 14);
            fallsAt(x, 2, 13);
            x.part(1, 2, 0, 1);
            due("13 is too few", x.need(1, 10, 10), NO);
            due("for 9 they are enough", x.need(1, 10, 9), 13);
            fallsAt(x, 2, 14);
            due("14 is not", x.need(1, 10, 10), 14);
            x.part(1, 5, 0, 1);
            due("falls with the first TERM", x.need(1, 10, 0), NO);
            // by its BOUND
            rules(x, 3, 1, 3, 5, 1);
            x.bound(3, 1, 3);
            x.part(3, 3, 1, 7);
            due("four have the WHOLE: 1.04 to 1.07", x.need(3, 10, 0), 4);
            x.bound(3, 333333, 1000000);
            due("the second lets it fall", x.need(3, 10, 0), NO);
            eulers(x, 2, 3);
            due("e - 1", x.need(2, 10, 0), 3);
            x.bound(3, 499999, 1000000);
            due("the second alone is beyond its BOUND", x.need(2, 10, 0), NO);
        });
        on("NO: with none of these.", () -> {
            Furnished.keeps("without parts", NO, x -> x.need(3, 10, 0));
            Furnished.keeps("too many", NO, x -> x.need(2, 10, 100));
            ConstantMill x = new ConstantMill();
            rules(x, 0, 1, 2, 1, 1);
            x.part(0, 0, 2, 3);
            due("4/3 in 97 bits", x.need(0, 2, 97), 99);
            due("LOW with 100 TERMS is too low for 98", x.need(0, 2, 98), NO);
            due("99", x.need(0, 2, 99), NO);
            due("100", x.need(0, 2, 100), NO);
            x.part(0, 5, 1, 1);
            due("falls at 0", x.need(0, 2, 0), NO);
        });
        on("UNKNOWN", () -> {
            for (int bad : NO_CONSTANT) {
                Furnished.keeps("constant " + bad, UNKNOWN, x -> x.need(bad, 10, 5));
                Furnished.keeps("and all else", UNKNOWN, x -> x.need(bad, 1, 101));
            }
        });
        on("OUTSIDE", () -> {
            for (int bad : new int[] {1, 0, -1, 37, LEAST, MOST}) {
                Furnished.keeps("base " + bad, OUTSIDE, x -> x.need(0, bad, 5));
                Furnished.keeps("without parts", OUTSIDE, x -> x.need(3, bad, 5));
            }
            for (int bad : new int[] {-1, 101, LEAST, MOST}) {
                Furnished.keeps("n " + bad, OUTSIDE, x -> x.need(0, 10, bad));
                Furnished.keeps("falling", OUTSIDE, x -> x.need(2, 10, bad));
            }
            Furnished.keeps("the least of each", 3, x -> x.need(1, 2, 0));
            Furnished.keeps("the most of each", NO, x -> x.need(1, 36, 100));
        });
        on("(THE RESULT stays.)", () -> {
            Furnished.keeps("one is found", 31, x -> x.need(1, 10, 15));
            Furnished.keeps("none is found", NO, x -> x.need(1, 10, 100));
            ConstantMill x = new ConstantMill();
            eulers(x, 0, 0);
            due("there is none yet", x.need(0, 10, 3), 7);
            due("nor behind it", x.about(0), STATE);
            due("nor behind it", x.figure(1), NONE);
            due("nor behind it", x.signOf(), 0);
            due("nor behind it", x.whole(), 0);
        });
    }

    public static void main(String[] args) {
        part();
        clear();
        told();
        figures();
        need();
        end();
    }
}
