/** Promises 6 to 15, sentence by sentence. */
public final class DrawersEdgeTest extends Edges {
    private static final int[] NO_DRAWER = {-1, 8, LEAST, MOST};
    private static final int[] NO_NUMBER = {-1, 4, LEAST, MOST};

    /** 100 TERMS of sum 0: 1 / (2 k + 3), so that each SPAN has other NUMBERS. */
    private static ConstantMill odd() {
        ConstantMill x = new ConstantMill();
        rules(x, 0, -1, 3, 1, 3);
        x.rule(0, 3, 3, 2, 0);
        x.bound(0, 1, 3);
        return x;
    }

    private static void grind() {
        promise(6, "grind");
        on("A DRAWER has the SPAN from i up to j of a SUM", () -> {
            for (int d = 0; d < 8; d++) {
                int drawer = d;
                ConstantMill x = Furnished.make();
                due("goes", x.grind(d, 1, 1, 3), 2);
                due("it has it", span(x, d), "1: 1 to 3");
                due("with its NUMBERS", numbers(x, d), "4 25 9 " + (2 * -5 * 3 + 4 * 3));
                Furnished.changes("and no other", 2, y -> y.grind(drawer, 1, 1, 3), "drawer " + d);
            }
            // nothing of a longer SPAN stays behind in a shorter one
            ConstantMill z = new ConstantMill();
            rules(z, 0, 998, 999, 997, 996);
            z.bound(0, 998, 999);
            z.grind(0, 0, 0, 100);
            z.grind(0, 0, 1, 3);
            due("two TERMS", numbers(z, 0), "996004 998001 992016 " + 996L * 997 * 998 * (999 + 998));
            for (int which = 0; which < 4; which++) {
                due("rest", z.rest(0, which, 999983), number(z, 0, which).longValue() % 999983);
                due("far", z.word(0, which, 100), 0);
            }
            Furnished.changes("all", 100, x -> x.grind(6, 3, 0, 100), "drawer 6");
            Furnished.changes("the last", 1, x -> x.grind(6, 3, 99, 100), "drawer 6");
            Furnished.keeps("the same again", 10, x -> x.grind(0, 0, 0, 10));
        });
        on("how many TERMS", () -> {
            ConstantMill x = odd();
            for (int i = 0; i <= 100; i += 4) {
                for (int j = i; j <= 100; j += 12) {
                    due("from " + i + " to " + j, x.grind(0, 0, i, j), j - i);
                }
            }
            due("none", x.grind(7, 0, 0, 0), 0);
            due("none at 100", x.grind(7, 0, 100, 100), 0);
            due("all", x.grind(7, 0, 0, 100), 100);
        });
        on("UNKNOWN", () -> {
            for (int bad : NO_DRAWER) {
                Furnished.keeps("drawer " + bad, UNKNOWN, x -> x.grind(bad, 0, 0, 1));
                Furnished.keeps("and all else wrong", UNKNOWN, x -> x.grind(bad, 6, 2, 1));
            }
            for (int bad : new int[] {-1, 6, LEAST, MOST}) {
                Furnished.keeps("sum " + bad, UNKNOWN, x -> x.grind(0, bad, 0, 1));
                Furnished.keeps("and i, j", UNKNOWN, x -> x.grind(0, bad, -1, 101));
            }
        });
        on("OUTSIDE: not 0 <= i <= j <= 100", () -> {
            int[][] wrong = {{-1, 5}, {-1, -1}, {LEAST, 0}, {LEAST, LEAST}, {5, 4}, {1, 0}, {100, 99},
                {0, -1}, {0, LEAST}, {0, 101}, {101, 101}, {100, 101}, {0, MOST}, {MOST, MOST}, {MOST, LEAST},
                {LEAST, MOST}};
            for (int[] w : wrong) {
                Furnished.keeps(w[0] + " to " + w[1], OUTSIDE, x -> x.grind(0, 0, w[0], w[1]));
                Furnished.keeps(w[0] + " to " + w[1] + ", empty", OUTSIDE, x -> x.grind(7, 3, w[0], w[1]));
                Furnished.keeps(w[0] + " to " + w[1] + ", falling", OUTSIDE, x -> x.grind(0, 4, w[0], w[1]));
            }
        });
        on("FALLS (the DRAWER is as it was)", () -> {
            Furnished.keeps("of this sum", -104, x -> x.grind(5, 4, 0, 9));
            Furnished.keeps("of another", -104, x -> x.grind(3, 4, 1, 5));
            Furnished.keeps("an empty one", -104, x -> x.grind(7, 4, 4, 5));
            Furnished.keeps("at 0", -100, x -> x.grind(4, 5, 0, 100));
            Furnished.keeps("at 99", -199, x -> x.grind(4, 5, 99, 100));
            Furnished.changes("just not asked", 3, x -> x.grind(7, 4, 1, 4), "drawer 7");
            Furnished.changes("an empty SPAN never does", 0, x -> x.grind(7, 5, 0, 0), "drawer 7");
            ConstantMill x = odd();
            x.rule(0, 1, 3, 1, 0);
            due("with a smaller BOUND: 1/4 at 1", x.bound(0, 1, 5), 0);
            due("is above it, times 3/5 is not", x.grind(0, 0, 0, 9), 9);
            x.bound(0, 1, 10);
            due("1/4 times 3/5 is above 1/10", x.grind(0, 0, 0, 9), -101);
            due("as it was: emptied by the BOUND", span(x, 0), "empty");
        });
    }

    private static void more() {
        promise(7, "more");
        on("Its SPAN goes on by n TERMS (0 to 100)", () -> {
            ConstantMill x = odd();
            for (int d = 0; d < 8; d++) {
                x.grind(d, 0, 5, 20);
            }
            due("other", x.grind(1, 0, 5, 64), 59);
            due("goes on", x.more(0, 44), 64);
            due("as ground at once", x.same(0, 1), 1);
            due("it goes on", span(x, 0), "0: 5 to 64");
            due("no other does", span(x, 2), "0: 5 to 20");
            x.grind(2, 0, 5, 5);
            due("from an empty SPAN", x.more(2, 59), 64);
            due("as ground at once", x.same(2, 1), 1);
            due("by 0", x.more(2, 0), 64);
            due("as it was", x.same(2, 1), 1);
            x.grind(3, 0, 0, 0);
            x.grind(4, 0, 0, 100);
            due("by 100", x.more(3, 100), 100);
            due("as ground at once", x.same(3, 4), 1);
            due("by 0 at 100", x.more(3, 0), 100);
            for (int k = 20; k < 100; k++) {
                due("one more", x.more(7, 1), k + 1);
            }
            x.grind(6, 0, 5, 100);
            due("as ground at once", x.same(7, 6), 1);
            Furnished.changes("changes it alone", 30, y -> y.more(0, 20), "drawer 0");
            Furnished.keeps("0 of 10", 10, y -> y.more(0, 0));
            Furnished.keeps("0 of an empty SPAN", 7, y -> y.more(4, 0));
        });
        on("up to where it goes.", () -> {
            ConstantMill x = odd();
            for (int n = 0; n <= 30; n++) {
                x.grind(0, 0, 70, 70);
                due("from 70", x.more(0, n), 70 + n);
                x.grind(1, 0, 10, 30);
                due("from 30", x.more(1, n), 30 + n);
            }
        });
        on("(Asked is whether it FALLS from its end on, with the TERM ahead, if there is one in it.)", () -> {
            ConstantMill x = new ConstantMill();
            rules(x, 0, 9, 1, 1, 1);
            x.grind(0, 0, 4, 4);
            due("none ahead: its first is not measured", x.more(0, 1), 5);
            due("one ahead", x.more(0, 1), -105);
            x.grind(1, 0, 5, 5);
            due("the second of two more is", x.more(1, 2), -106);
            due("and the first is there", span(x, 1), "0: 5 to 6");
            // joined where it falls: what lies ahead of its end is not asked again
            x.grind(2, 0, 4, 5);
            x.grind(3, 0, 5, 6);
            due("join", x.join(2, 3, 4), 2);
            due("by 0", x.more(4, 0), 6);
            due("from its end on", x.more(4, 3), -106);
            due("as it was", span(x, 4), "0: 4 to 6");
            // goes on behind a joint where it falls
            rules(x, 0, 1, 4, 1, 1);
            x.rule(0, 2, -10, 1, 0);
            due("a is 0 at 10", x.falls(0, 100), 11);
            x.grind(2, 0, 10, 11);
            x.grind(3, 0, 11, 12);
            x.join(2, 3, 4);
            due("2 / 4 at 12, 3 / 8 at 13", x.more(4, 2), 14);
            due("all four", span(x, 4), "0: 10 to 14");
        });
        on("UNKNOWN", () -> {
            for (int bad : NO_DRAWER) {
                Furnished.keeps("drawer " + bad, UNKNOWN, x -> x.more(bad, 1));
                Furnished.keeps("n", UNKNOWN, x -> x.more(bad, 101));
            }
        });
        on("OUTSIDE: n", () -> {
            for (int bad : new int[] {-1, 101, LEAST, MOST}) {
                for (int d = 0; d < 8; d++) {
                    int drawer = d;
                    Furnished.keeps("n " + bad, OUTSIDE, x -> x.more(drawer, bad));
                }
            }
        });
        on("or beyond 100", () -> {
            Furnished.keeps("10 and 91", OUTSIDE, x -> x.more(0, 91));
            Furnished.changes("10 and 90", 100, x -> x.more(0, 90), "drawer 0");
            Furnished.keeps("100 and 1", OUTSIDE, x -> x.more(3, 1));
            Furnished.keeps("100 and 100", OUTSIDE, x -> x.more(3, 100));
            Furnished.keeps("100 and 0", 100, x -> x.more(3, 0));
            Furnished.keeps("7 and 94, an empty SPAN", OUTSIDE, x -> x.more(4, 94));
            Furnished.changes("7 and 93", 100, x -> x.more(4, 93), "drawer 4");
            Furnished.keeps("4 and 97, though it falls", OUTSIDE, x -> x.more(5, 97));
            Furnished.keeps("4 and 96", -104, x -> x.more(5, 96));
        });
        on("STATE: it is empty", () -> {
            for (int n : new int[] {0, 1, 100}) {
                Furnished.keeps("by " + n, STATE, x -> x.more(6, n));
            }
            ConstantMill x = odd();
            x.grind(0, 0, 3, 60);
            x.empty(0);
            due("emptied", x.more(0, 1), STATE);
            due("emptied: where it ended counts no more", x.more(0, 100), STATE);
        });
        on("FALLS (the DRAWER has the TERMS ahead of k)", () -> {
            ConstantMill x = new ConstantMill();
            for (int k = 10; k <= 99; k += 89) {
                fallsAt(x, 0, k);
                x.grind(0, 0, 3, 5);
                x.grind(1, 0, 3, k);
                due("falls", x.more(0, 95), -100 - k);
                due("the TERMS ahead", span(x, 0), "0: 3 to " + k);
                due("with their NUMBERS", x.same(0, 1), 1);
                due("again", x.more(0, 1), -100 - k);
                due("as it was", x.same(0, 1), 1);
                x.grind(2, 0, k, k);
                due("of none", x.more(2, 1), -100 - k);
                due("it stays empty", numbers(x, 2), "1 1 1 0");
            }
            rules(x, 1, 1, 2, 1, 1);
            x.rule(1, 0, 1, 0, 0);
            x.rule(1, 1, 20, -1, 0);
            x.grind(3, 1, 0, 2);
            due("1 / 1 is above 1 / 2", x.more(3, 40), -119);
            due("with 1 / 2", span(x, 3), "1: 0 to 19");
            Furnished.keeps("ahead of its end are none", -104, y -> y.more(5, 1));
        });
    }

    private static void join() {
        promise(8, "join");
        on("DRAWER f has the SPANS of d and e, one behind the other", () -> {
            Furnished.changes("into an empty one", 15, x -> x.join(0, 1, 6), "drawer 6");
            Furnished.changes("into another's", 15, x -> x.join(0, 1, 2), "drawer 2");
            Furnished.changes("into d", 15, x -> x.join(0, 1, 0), "drawer 0");
            Furnished.changes("into e", 15, x -> x.join(0, 1, 1), "drawer 1");
            Furnished.keeps("an empty SPAN with itself", 0, x -> x.join(4, 4, 4));
            ConstantMill y = Furnished.make();
            y.join(0, 1, 2);
            due("of another sum it has this one's now", span(y, 2), "0: 0 to 15");
            ConstantMill x = odd();
            x.grind(0, 0, 0, 100);
            for (int middle = 0; middle <= 100; middle += 10) {
                x.grind(1, 0, 0, middle);
                x.grind(2, 0, middle, 100);
                due("at " + middle, x.join(1, 2, 3), 100);
                due("as ground at once", x.same(0, 3), 1);
                due("as ground at once", span(x, 3), "0: 0 to 100");
                due("into e", x.join(1, 2, 2), 100);
                due("as ground at once", x.same(0, 2), 1);
                due("as ground at once", span(x, 2), "0: 0 to 100");
                x.grind(2, 0, middle, 100);
                due("into d", x.join(1, 2, 1), 100);
                due("as ground at once", x.same(0, 1), 1);
                due("as ground at once", span(x, 1), "0: 0 to 100");
            }
        });
        on("how many TERMS", () -> {
            ConstantMill x = odd();
            x.grind(0, 0, 7, 20);
            x.grind(1, 0, 20, 45);
            x.grind(2, 0, 20, 20);
            x.grind(3, 0, 7, 7);
            due("13 and 25", x.join(0, 1, 4), 38);
            due("13 and none", x.join(0, 2, 4), 13);
            due("as the one", x.same(0, 4), 1);
            due("none and 13", x.join(3, 0, 4), 13);
            due("as the one", x.same(0, 4), 1);
            due("none and none", x.join(2, 2, 4), 0);
            due("an empty SPAN", span(x, 4) + " " + numbers(x, 4), "0: 20 to 20 1 1 1 0");
        });
        on("UNKNOWN", () -> {
            for (int bad : NO_DRAWER) {
                Furnished.keeps("d", UNKNOWN, x -> x.join(bad, 1, 2));
                Furnished.keeps("e", UNKNOWN, x -> x.join(0, bad, 2));
                Furnished.keeps("f", UNKNOWN, x -> x.join(0, 1, bad));
                Furnished.keeps("f, others empty", UNKNOWN, x -> x.join(6, 7, bad));
            }
        });
        on("STATE: one is empty", () -> {
            Furnished.keeps("d", STATE, x -> x.join(6, 1, 2));
            Furnished.keeps("e", STATE, x -> x.join(0, 6, 2));
            Furnished.keeps("both", STATE, x -> x.join(6, 6, 6));
            ConstantMill x = odd();
            x.grind(0, 0, 0, 5);
            x.grind(1, 0, 5, 9);
            x.empty(1);
            due("emptied", x.join(0, 1, 2), STATE);
            due("f stays", span(x, 2), "empty");
        });
        on("NO: they are of two SUMS", () -> {
            ConstantMill x = odd();
            rules(x, 1, -1, 3, 1, 3);
            x.rule(1, 3, 3, 2, 0);
            x.bound(1, 1, 3);
            x.grind(0, 0, 0, 5);
            x.grind(1, 1, 5, 9);
            x.grind(2, 0, 5, 9);
            due("alike, yet two", x.join(0, 1, 3), NO);
            due("f stays", span(x, 3), "empty");
            due("one", x.join(0, 2, 3), 9);
            Furnished.keeps("and of another place", NO, y -> y.join(0, 2, 6));
            Furnished.keeps("f stays", NO, y -> y.join(3, 4, 0));
        });
        on("or e does not begin where d ends.", () -> {
            ConstantMill x = odd();
            x.grind(0, 0, 2, 5);
            x.grind(1, 0, 6, 9);
            x.grind(2, 0, 4, 9);
            x.grind(3, 0, 5, 9);
            x.grind(4, 0, 2, 9);
            x.grind(5, 0, 9, 2);
            due("a gap", x.join(0, 1, 6), NO);
            due("upon one another", x.join(0, 2, 6), NO);
            due("the wrong way round", x.join(3, 0, 6), NO);
            due("the same place", x.join(0, 4, 6), NO);
            due("with itself", x.join(0, 0, 6), NO);
            due("f stays", span(x, 6), "empty");
            due("just so", x.join(0, 3, 6), 7);
            Furnished.keeps("f stays", NO, y -> y.join(1, 0, 2));
        });
        on("(Whether the SUM FALLS where they meet is not asked.)", () -> {
            ConstantMill x = new ConstantMill();
            rules(x, 0, 9, 1, 1, 1);
            x.grind(0, 0, 3, 4);
            x.grind(1, 0, 4, 5);
            due("9 is above 1 / 2", x.grind(2, 0, 3, 5), -104);
            due("yet they are joined", x.join(0, 1, 2), 2);
            due("P 81, Q 1, B 1, T 9 and 81", numbers(x, 2), "81 1 1 90");
        });
    }

    private static void empty() {
        promise(9, "empty");
        on("A DRAWER is emptied", () -> {
            for (int d = 0; d < 6; d++) {
                int drawer = d;
                int[] terms = {10, 5, 17, 100, 0, 4};
                Furnished.changes("drawer " + d, terms[d], x -> x.empty(drawer), "drawer " + d);
                ConstantMill x = Furnished.make();
                x.empty(d);
                due("emptied", span(x, d), "empty");
                due("no NUMBER", x.bits(d, 0), STATE);
            }
        });
        on("how many TERMS it had.", () -> {
            ConstantMill x = odd();
            x.grind(0, 0, 0, 100);
            due("100", x.empty(0), 100);
            x.grind(0, 0, 30, 47);
            due("17", x.empty(0), 17);
            x.grind(0, 0, 30, 30);
            due("none, yet it was not empty", x.empty(0), 0);
            due("now it is", x.empty(0), STATE);
        });
        on("UNKNOWN", () -> {
            for (int bad : NO_DRAWER) {
                Furnished.keeps("drawer " + bad, UNKNOWN, x -> x.empty(bad));
            }
        });
        on("STATE: it is.", () -> {
            Furnished.keeps("6", STATE, x -> x.empty(6));
            Furnished.keeps("7", STATE, x -> x.empty(7));
            ConstantMill x = odd();
            x.grind(0, 0, 0, 9);
            x.rule(0, 2, 2, 0, 0);
            due("by its rule", x.empty(0), STATE);
            x.grind(0, 0, 0, 9);
            x.bound(0, 1, 2);
            due("by its BOUND", x.empty(0), STATE);
        });
    }

    private static void span() {
        promise(10, "span");
        on("Of a DRAWER: 0 the SUM, 1 i, 2 j.", () -> {
            Furnished.keeps("0", 1, x -> x.span(2, 0));
            Furnished.keeps("1", 3, x -> x.span(2, 1));
            Furnished.keeps("2", 20, x -> x.span(2, 2));
            Furnished.keeps("i of an empty SPAN", 7, x -> x.span(4, 1));
            Furnished.keeps("j of an empty SPAN", 7, x -> x.span(4, 2));
            Furnished.keeps("0", 0, x -> x.span(3, 1));
            Furnished.keeps("100", 100, x -> x.span(3, 2));
        });
        on("UNKNOWN", () -> {
            for (int bad : NO_DRAWER) {
                Furnished.keeps("drawer " + bad, UNKNOWN, x -> x.span(bad, 0));
                Furnished.keeps("and what", UNKNOWN, x -> x.span(bad, 3));
            }
        });
        on("OUTSIDE", () -> {
            for (int bad : new int[] {-1, 3, LEAST, MOST}) {
                Furnished.keeps("what " + bad, OUTSIDE, x -> x.span(0, bad));
                Furnished.keeps("empty, what " + bad, OUTSIDE, x -> x.span(7, bad));
            }
        });
        on("STATE: it is empty.", () -> {
            for (int what = 0; what < 3; what++) {
                int w = what;
                Furnished.keeps("what " + what, STATE, x -> x.span(7, w));
            }
        });
    }

    private static void bits() {
        promise(11, "bits");
        on("Of a NUMBER (0 P, 1 Q, 2 B, 3 T): how many bits it has without its sign", () -> {
            ConstantMill x = new ConstantMill();
            rules(x, 0, 2, -4, -1, 8);
            for (int k = 1; k <= 99; k += 7) {
                x.grind(0, 0, 1, 1 + k);
                due("2 to the " + k, x.bits(0, 0), k + 1);
                due("4 to the " + k, x.bits(0, 1), 2 * k + 1);
                due("8 to the " + k, x.bits(0, 2), 3 * k + 1);
                x.grind(0, 0, 1, 2);
                due("-2", x.bits(0, 3), 2);
            }
            int[][] values = {{1, 1}, {2, 2}, {3, 2}, {4, 3}, {255, 8}, {256, 9}, {511, 9}, {512, 10}, {999, 10}};
            for (int[] v : values) {
                for (int which = 0; which < 4; which++) {
                    rules(x, 1, 1, 1, 1, 1);
                    x.rule(1, which == 3 ? 2 : which == 2 ? 3 : which, -v[0], 0, 0);
                    x.grind(1, 1, 1, 2);
                    due("of -" + v[0], x.bits(1, which), v[1]);
                }
            }
            Furnished.keeps("asking", number(Furnished.make(), 3, 3).bitLength(), y -> y.bits(3, 3));
        });
        on("(0 has 0).", () -> {
            Furnished.keeps("T of an empty SPAN", 0, x -> x.bits(4, 3));
            ConstantMill x = new ConstantMill();
            rules(x, 0, 0, 1, 1, 1);
            x.grind(0, 0, 0, 2);
            due("P", x.bits(0, 0), 0);
            due("T is 1", x.bits(0, 3), 1);
        });
        on("UNKNOWN", () -> {
            for (int bad : NO_DRAWER) {
                Furnished.keeps("drawer " + bad, UNKNOWN, x -> x.bits(bad, 0));
                Furnished.keeps("and which", UNKNOWN, x -> x.bits(bad, 4));
            }
        });
        on("OUTSIDE", () -> {
            for (int bad : NO_NUMBER) {
                Furnished.keeps("which " + bad, OUTSIDE, x -> x.bits(0, bad));
                Furnished.keeps("empty, which " + bad, OUTSIDE, x -> x.bits(7, bad));
            }
        });
        on("STATE", () -> {
            for (int which = 0; which < 4; which++) {
                int w = which;
                Furnished.keeps("which " + w, STATE, x -> x.bits(7, w));
            }
        });
    }

    private static void sign() {
        promise(12, "sign");
        on("Its sign: 1, 0; 2: it is below 0.", () -> {
            for (int signs = 0; signs < 16; signs++) {
                ConstantMill x = new ConstantMill();
                int p = (signs & 1) == 0 ? 3 : -3;
                int q = (signs & 2) == 0 ? 5 : -5;
                int a = (signs & 4) == 0 ? 7 : -7;
                int b = (signs & 8) == 0 ? 9 : -9;
                rules(x, 0, p, q, a, b);
                x.bound(0, 3, 5);
                x.grind(0, 0, 1, 2);
                due("P", x.sign(0, 0), p > 0 ? 1 : 2);
                due("Q", x.sign(0, 1), q > 0 ? 1 : 2);
                due("B", x.sign(0, 2), b > 0 ? 1 : 2);
                due("T", x.sign(0, 3), p * a > 0 ? 1 : 2);
                x.more(0, 1);
                due("P of two", x.sign(0, 0), 1);
                due("Q of two", x.sign(0, 1), 1);
                due("B of two", x.sign(0, 2), 1);
                // p a b (q + p), and q is the larger
                due("T of two", x.sign(0, 3), p * a * b * (q + p) > 0 ? 1 : 2);
            }
            ConstantMill x = new ConstantMill();
            rules(x, 0, 0, -5, -7, 9);
            x.grind(0, 0, 1, 2);
            due("P is 0", x.sign(0, 0), 0);
            due("T is 0", x.sign(0, 3), 0);
            Furnished.keeps("T of an empty SPAN", 0, y -> y.sign(4, 3));
            Furnished.keeps("P of an empty SPAN", 1, y -> y.sign(4, 0));
        });
        on("UNKNOWN", () -> {
            for (int bad : NO_DRAWER) {
                Furnished.keeps("drawer " + bad, UNKNOWN, x -> x.sign(bad, 0));
                Furnished.keeps("and which", UNKNOWN, x -> x.sign(bad, 4));
            }
        });
        on("OUTSIDE", () -> {
            for (int bad : NO_NUMBER) {
                Furnished.keeps("which " + bad, OUTSIDE, x -> x.sign(0, bad));
                Furnished.keeps("empty, which " + bad, OUTSIDE, x -> x.sign(7, bad));
            }
        });
        on("STATE", () -> {
            for (int which = 0; which < 4; which++) {
                int w = which;
                Furnished.keeps("which " + w, STATE, x -> x.sign(7, w));
            }
        });
    }

    private static void rest() {
        promise(13, "rest");
        on("What is left of it by m (2 to 1000000): 0 to m - 1, also of one below 0.", () -> {
            for (int p = -999; p <= 999; p += 37) {
                ConstantMill x = new ConstantMill();
                rules(x, 0, p, 1, 1, 1);
                x.grind(0, 0, 1, 2);
                for (int m : new int[] {2, 3, 37, 998, 999, 1000, 1000000}) {
                    due(p + " by " + m, x.rest(0, 0, m), Math.floorMod(p, m));
                }
            }
            ConstantMill x = new ConstantMill();
            rules(x, 0, -10, 999, 1, 1);
            x.bound(0, 10, 999);
            x.grind(0, 0, 1, 100);
            due("-10 to the 99 by a million", x.rest(0, 0, 1000000), 0);
            due("by 3: -1", x.rest(0, 0, 3), 2);
            due("by 11: 1", x.rest(0, 0, 11), 1);
            due("by 2", x.rest(0, 0, 2), 0);
            for (int m = 999901; m <= 1000000; m++) {
                due("by " + m, x.rest(0, 0, m), -powerBy(10, 99, m) + (powerBy(10, 99, m) == 0 ? 0 : m));
                due("by " + m, x.rest(0, 1, m), powerBy(999, 99, m));
            }
            Furnished.keeps("of 0", 0, y -> y.rest(4, 3, 1000000));
            Furnished.keeps("of 1", 1, y -> y.rest(4, 0, 2));
        });
        on("UNKNOWN", () -> {
            for (int bad : NO_DRAWER) {
                Furnished.keeps("drawer " + bad, UNKNOWN, x -> x.rest(bad, 0, 2));
                Furnished.keeps("and all else", UNKNOWN, x -> x.rest(bad, 4, 1));
            }
        });
        on("OUTSIDE", () -> {
            for (int bad : NO_NUMBER) {
                Furnished.keeps("which " + bad, OUTSIDE, x -> x.rest(0, bad, 2));
                Furnished.keeps("empty, which " + bad, OUTSIDE, x -> x.rest(7, bad, 2));
            }
            for (int bad : new int[] {1, 0, -1, -2, 1000001, LEAST, MOST}) {
                for (int which = 0; which < 4; which++) {
                    int w = which;
                    Furnished.keeps("m " + bad, OUTSIDE, x -> x.rest(0, w, bad));
                    Furnished.keeps("empty, m " + bad, OUTSIDE, x -> x.rest(7, w, bad));
                }
            }
        });
        on("STATE", () -> {
            for (int which = 0; which < 4; which++) {
                int w = which;
                Furnished.keeps("which " + w, STATE, x -> x.rest(7, w, 2));
                Furnished.keeps("which " + w, STATE, x -> x.rest(7, w, 1000000));
            }
        });
    }

    private static int powerBy(int x, int n, int m) {
        long all = 1;
        for (int i = 0; i < n; i++) {
            all = all * x % m;
        }
        return (int) all;
    }

    private static void word() {
        promise(14, "word");
        on("Sixteen bits of it without its sign, those from bit 16 k on", () -> {
            ConstantMill x = new ConstantMill();
            // a figure of -1 in base 4 each: T is 4 to the n less 1, all ones
            rules(x, 0, 1, 4, -3, 1);
            x.bound(0, 1, 4);
            x.grind(0, 0, 1, 100);
            due("198 bits", x.bits(0, 3), 198);
            for (int k = 0; k < 12; k++) {
                due("ones at " + k, x.word(0, 3, k), 65535);
            }
            due("the last 6", x.word(0, 3, 12), 63);
            for (int n = 1; n <= 99; n += 2) {
                x.grind(1, 0, 1, 1 + n);
                for (int k = 0; k <= 13; k++) {
                    due("4 to the " + n + " at " + k, x.word(1, 1, k), 2 * n / 16 == k ? 1 << 2 * n % 16 : 0);
                }
                if (n > 51) {
                    break;
                }
            }
            Furnished.keeps("-1", 1, y -> y.word(3, 0, 0));
            Furnished.keeps("1", 1, y -> y.word(4, 2, 0));
        });
        on("0 beyond its end.", () -> {
            ConstantMill x = new ConstantMill();
            rules(x, 0, 2, 4, 1, 1);
            x.grind(0, 0, 1, 16);
            due("its highest bit is 15", x.word(0, 0, 0), 32768);
            due("none", x.word(0, 0, 1), 0);
            x.more(0, 1);
            due("its highest bit is 16", x.word(0, 0, 0), 0);
            due("it", x.word(0, 0, 1), 1);
            // 16 k and k + 1 wrap at these, and 2 to the 28, 29 times 16 are 0 then
            for (int k : new int[] {2, 3, 100, 1 << 26, 1 << 27, 1 << 28, 1 << 29, 1 << 30, MOST - 1, MOST}) {
                for (int which = 0; which < 4; which++) {
                    due("at " + k, x.word(0, which, k), which == 1 && k == 2 ? 1 : 0);
                }
            }
            for (int which = 0; which < 3; which++) {
                int w = which;
                Furnished.keeps("of 1", 0, y -> y.word(4, w, 1));
                Furnished.keeps("of 1, far", 0, y -> y.word(4, w, 1 << 28));
            }
            Furnished.keeps("of 0", 0, y -> y.word(4, 3, 0));
            Furnished.keeps("of 0", 0, y -> y.word(4, 3, MOST));
        });
        on("UNKNOWN", () -> {
            for (int bad : NO_DRAWER) {
                Furnished.keeps("drawer " + bad, UNKNOWN, x -> x.word(bad, 0, 0));
                Furnished.keeps("and all else", UNKNOWN, x -> x.word(bad, 4, -1));
            }
        });
        on("OUTSIDE: which", () -> {
            for (int bad : NO_NUMBER) {
                Furnished.keeps("which " + bad, OUTSIDE, x -> x.word(0, bad, 0));
                Furnished.keeps("empty, which " + bad, OUTSIDE, x -> x.word(7, bad, MOST));
            }
        });
        on("k is below 0", () -> {
            for (int bad : new int[] {-1, -2, LEAST}) {
                for (int which = 0; which < 4; which++) {
                    int w = which;
                    Furnished.keeps("k " + bad, OUTSIDE, x -> x.word(0, w, bad));
                    Furnished.keeps("empty, k " + bad, OUTSIDE, x -> x.word(7, w, bad));
                }
            }
        });
        on("STATE", () -> {
            for (int which = 0; which < 4; which++) {
                int w = which;
                Furnished.keeps("which " + w, STATE, x -> x.word(7, w, 0));
                Furnished.keeps("which " + w, STATE, x -> x.word(7, w, MOST));
            }
        });
    }

    private static void same() {
        promise(15, "same");
        on("Whether two DRAWERS have the same four NUMBERS: 1, 0.", () -> {
            for (int which = 0; which < 4; which++) {
                ConstantMill x = new ConstantMill();
                rules(x, 0, 3, 9, 5, 7);
                rules(x, 1, 3, 9, 5, 7);
                x.grind(0, 0, 1, 2);
                due("of two sums, at two places", x.grind(1, 1, 30, 31), 1);
                due("the same", x.same(0, 1), 1);
                // q, b, a are in Q, B, T alone, and p in P and T
                int rule = which == 2 ? 3 : which == 3 ? 2 : which;
                for (int value : new int[] {-1, which == 0 ? -3 : which == 1 ? -9 : which == 2 ? -7 : -5}) {
                    x.rule(1, rule, value, 0, 0);
                    x.grind(1, 1, 30, 31);
                    due("number " + which, x.same(0, 1), 0);
                    due("the other way", x.same(1, 0), 0);
                }
            }
            ConstantMill x = new ConstantMill();
            rules(x, 0, 3, 9, 5, 7);
            rules(x, 1, -3, 9, -5, 7);
            x.grind(0, 0, 1, 2);
            x.grind(1, 1, 1, 2);
            due("T is the same, P is not", x.same(0, 1), 0);
            x.grind(0, 0, 4, 4);
            x.grind(1, 1, 9, 9);
            due("two empty SPANS", x.same(0, 1), 1);
            x.grind(0, 0, 0, 99);
            x.grind(1, 0, 0, 99);
            due("long ones", x.same(0, 1), 1);
            due("itself", x.same(0, 0), 1);
            for (int j : new int[] {98, 40, 9, 0}) {
                x.grind(1, 0, 0, j);
                due("fewer TERMS", x.same(0, 1), 0);
                due("fewer TERMS", x.same(1, 0), 0);
            }
            // T is 0 from above and from below: a is -1 and 1, or 1 and -1
            for (int s = 2; s < 4; s++) {
                rules(x, s, 1, 1, 1, 1);
                x.rule(s, 2, s == 2 ? -3 : 3, s == 2 ? 2 : -2, 0);
                x.bound(s, 999999, 1000000);
                due("the first", x.grind(2, s, 1, 2), 1);
                due("the second", x.grind(3, s, 2, 3), 1);
                due("both", x.join(2, 3, s + 2), 2);
            }
            due("0 has one sign", x.same(4, 5), 1);
            Furnished.keeps("asking", 0, y -> y.same(0, 1));
        });
        on("UNKNOWN", () -> {
            for (int bad : NO_DRAWER) {
                Furnished.keeps("d", UNKNOWN, x -> x.same(bad, 0));
                Furnished.keeps("e", UNKNOWN, x -> x.same(0, bad));
                Furnished.keeps("both", UNKNOWN, x -> x.same(bad, bad));
                Furnished.keeps("and empty", UNKNOWN, x -> x.same(7, bad));
                Furnished.keeps("and empty", UNKNOWN, x -> x.same(bad, 7));
            }
        });
        on("STATE: one is empty.", () -> {
            Furnished.keeps("d", STATE, x -> x.same(7, 0));
            Furnished.keeps("e", STATE, x -> x.same(0, 7));
            Furnished.keeps("both", STATE, x -> x.same(6, 7));
            Furnished.keeps("one", STATE, x -> x.same(7, 7));
            Furnished.keeps("an empty SPAN is none", 0, x -> x.same(4, 0));
        });
    }

    public static void main(String[] args) {
        grind();
        more();
        join();
        empty();
        span();
        bits();
        sign();
        rest();
        word();
        same();
        end();
    }
}
