/** Promises 21 to 27, sentence by sentence. */
public final class ResultEdgeTest extends Edges {
    private static final int[] NO_CONSTANT = {-1, 4, LEAST, MOST};

    private static void signOf() {
        promise(21, "signOf");
        on("SIGN of THE RESULT.", () -> {
            ConstantMill x = new ConstantMill();
            due("without it", x.signOf(), 0);
            exactly(x, 0, 1, 7);
            due("not yet", x.signOf(), 0);
            x.figures(0, 10, 5, 2);
            due("above", x.signOf(), 1);
            exactly(x, 0, -1, 7);
            due("still", x.signOf(), 1);
            x.figures(0, 10, 5, 2);
            due("below", x.signOf(), -1);
            x.figures(1, 10, 5, 2);
            due("without parts", x.signOf(), 0);
            between(x, 0, 19, 20, 10);
            x.figures(0, 10, 5, 1);
            due("above, and nothing SURE", x.signOf(), 1);
            between(x, 0, -20, -19, 10);
            x.figures(0, 10, 5, 1);
            due("below, and nothing SURE", x.signOf(), -1);
            between(x, 0, -1, 0, 10);
            x.figures(0, 10, 5, 1);
            due("HIGH is 0", x.signOf(), 0);
            between(x, 0, -20, -19, 1);
            x.figures(0, 10, 5, 1);
            between(x, 0, 0, 1, 10);
            x.figures(0, 10, 5, 1);
            due("LOW is 0", x.signOf(), 0);
            between(x, 0, 1, 2, 1000000 / 3);
            x.figures(0, 10, 5, 1);
            due("just above", x.signOf(), 1);
            due("refused", x.figures(0, 10, 101, 1), OUTSIDE);
            due("stays", x.signOf(), 1);
            Furnished.keeps("asking", 1, y -> y.signOf());
        });
    }

    private static void whole() {
        promise(22, "whole");
        on("The WHOLE", () -> {
            ConstantMill x = new ConstantMill();
            due("without a result", x.whole(), 0);
            int[][] values = {{7, 7, 1}, {6, 7, 0}, {22, 7, 3}, {-22, 7, 3}, {1000000, 1, 1000000}, {1, 1000000, 0},
                {-999999, 2, 499999}};
            for (int[] v : values) {
                exactly(x, 0, v[0], v[1]);
                due("all", x.figures(0, 36, 4, 2), 4);
                due(v[0] + " / " + v[1], x.whole(), v[2]);
            }
            rules(x, 0, 0, 1, 999, 1);
            x.clear(0);
            for (int i = 1; i <= 4; i++) {
                x.part(0, 0, 1000000, 1);
                x.figures(0, 10, 0, 2);
                due("beyond an int from the third on", x.whole(), i * 999000000L);
            }
            Furnished.keeps("asking", 6, y -> y.whole());
        });
        on("0, if it is not SURE.", () -> {
            ConstantMill x = new ConstantMill();
            exactly(x, 0, 22, 7);
            between(x, 1, 39, 40, 10);
            between(x, 2, -1, 40, 10);
            for (int c = 1; c < 4; c++) {
                x.figures(0, 10, 5, 2);
                due("3", x.whole(), 3);
                due("not SURE", x.figures(c, 10, 5, 1), NONE);
                due("so 0", x.whole(), 0);
            }
        });
    }

    private static void figure() {
        promise(23, "figure");
        on("Figure i behind the point (from 1 on)", () -> {
            ConstantMill x = new ConstantMill();
            exactly(x, 0, 22, 7);
            x.figures(0, 10, 100, 2);
            for (int i = 1; i <= 100; i++) {
                due("at " + i, x.figure(i), "142857".charAt((i - 1) % 6) - '0');
            }
            exactly(x, 0, -(35 * 36 + 1), 1296);
            x.figures(0, 36, 3, 2);
            due("0.z1", x.figure(1), 35);
            due("0.z1", x.figure(2), 1);
            due("0.z1", x.figure(3), 0);
            Furnished.keeps("asking", 5, y -> y.figure(1));
            Furnished.keeps("asking", NONE, y -> y.figure(7));
        });
        on("NONE: it is not SURE, there is none such.", () -> {
            ConstantMill x = new ConstantMill();
            for (int i : new int[] {0, 1, 100, 101, -1, LEAST, MOST}) {
                due("no result, " + i, x.figure(i), NONE);
            }
            between(x, 0, 31415, 31425, 10000);
            due("3.1415 to 3.1425", x.figures(0, 10, 9, 1), 2);
            due("the last", x.figure(2), 4);
            due("not SURE", x.figure(3), NONE);
            due("not SURE, though both have it", x.figure(4), NONE);
            exactly(x, 0, 1, 3);
            x.figures(0, 10, 7, 2);
            due("the last", x.figure(7), 3);
            due("not asked for", x.figure(8), NONE);
            for (int i : new int[] {0, -1, 101, LEAST, MOST}) {
                due("there is no " + i, x.figure(i), NONE);
            }
            x.figures(0, 10, 0, 2);
            due("none is asked for", x.figure(1), NONE);
            x.figures(0, 10, 100, 2);
            due("the hundredth", x.figure(100), 3);
            due("no more", x.figure(101), NONE);
            due("none before the first", x.figure(0), NONE);
            x.figures(1, 10, 100, 2);
            due("none is SURE", x.figure(1), NONE);
            due("none of the one before", x.figure(100), NONE);
        });
    }

    private static void count() {
        promise(24, "count");
        on("How often a figure comes among the SURE ones behind the point.", () -> {
            ConstantMill x = new ConstantMill();
            for (int figure = 0; figure <= 35; figure++) {
                due("without a result", x.count(figure), 0);
            }
            exactly(x, 0, 4 * 36 * 36 + 35 * 36 + 35, 1296);
            x.figures(0, 36, 100, 2);
            due("4.zz", x.count(35), 2);
            due("4.zz00..", x.count(0), 98);
            due("the WHOLE does not count", x.count(4), 0);
            x.figures(0, 36, 1, 2);
            due("just those told", x.count(35), 1);
            due("just those told", x.count(0), 0);
            x.figures(0, 36, 0, 2);
            due("none told", x.count(35), 0);
            exactly(x, 0, 1, 7);
            x.figures(0, 10, 6, 2);
            for (int figure = 0; figure <= 35; figure++) {
                due("142857", x.count(figure), figure < 10 && "142857".indexOf('0' + figure) >= 0 ? 1 : 0);
            }
            between(x, 0, 11112, 11122, 10000);
            x.figures(0, 10, 9, 1);
            due("1.1112 to 1.1122: 11", x.count(1), 2);
            due("what comes behind is not SURE", x.count(2), 0);
            x.figures(1, 10, 9, 1);
            due("none is SURE", x.count(1), 0);
            exactly(x, 0, 1, 9);
            x.figures(0, 10, 100, 2);
            due("all", x.count(1), 100);
            due("none", x.count(0), 0);
            Furnished.keeps("asking", 3, y -> y.count(5));
        });
        on("OUTSIDE: it is not 0 to 35.", () -> {
            for (int bad : new int[] {-1, 36, NONE, LEAST, MOST}) {
                Furnished.keeps("figure " + bad, OUTSIDE, x -> x.count(bad));
                due("no result, figure " + bad, new ConstantMill().count(bad), OUTSIDE);
            }
            Furnished.keeps("35, though the base is 10", 0, x -> x.count(35));
            Furnished.keeps("10, though the base is 10", 0, x -> x.count(10));
        });
    }

    private static int row(int... figures) {
        int all = 0;
        for (int figure : figures) {
            all = all << 5 | figure;
        }
        return all;
    }

    private static void where() {
        promise(25, "where");
        on("The least place (from 1 on) from which on a row of n figures (1 to 5) comes", () -> {
            ConstantMill x = new ConstantMill();
            exactly(x, 0, 1, 7);
            x.figures(0, 10, 12, 2);
            int[] sixth = {1, 4, 2, 8, 5, 7};
            for (int place = 1; place <= 6; place++) {
                int wanted = 0;
                for (int n = 1; n <= 5; n++) {
                    wanted = wanted << 5 | sixth[(place + n - 2) % 6];
                    due(n + " from " + place, x.where(wanted, n), place);
                }
            }
            // 0.0010010001..: where one begins anew within another's beginning
            exactly(x, 0, 64 + 8, 512);
            x.figures(0, 2, 20, 2);
            due("0.001001", result(x), "+0.00100100000000000000");
            due("00", x.where(row(0, 0), 2), 1);
            due("1001", x.where(row(1, 0, 0, 1), 4), 3);
            due("000", x.where(row(0, 0, 0), 3), 7);
            due("0000", x.where(0, 4), 7);
            due("01001", x.where(row(0, 1, 0, 0, 1), 5), 2);
            x.figures(0, 2, 7, 2);
            due("10 at its end", x.where(row(1, 0), 2), 3);
            due("0 1 0 at its end", x.where(row(0, 0, 1, 0), 4), 1);
            due("1 0 0 1 0", x.where(row(1, 0, 0, 1, 0), 5), 3);
            Furnished.keeps("asking", 1, y -> y.where(5, 1));
        });
        on("each five bits of row, the last one lowest", () -> {
            ConstantMill x = new ConstantMill();
            exactly(x, 0, 31 * 32 + 30, 1024);
            x.figures(0, 32, 5, 2);
            due("0.vu000", result(x), "+0.vu000");
            due("31", x.where(31, 1), 1);
            due("31 30", x.where(31 * 32 + 30, 2), 1);
            due("30 31", x.where(30 * 32 + 31, 2), NONE);
            due("30 0", x.where(30 * 32, 2), 2);
            due("31 30 0 0 0: 25 bits", x.where(row(31, 30, 0, 0, 0), 5), 1);
            due("0 before the last", x.where(row(0, 0, 30), 3), NONE);
            due("bits above the row's are none of it", x.where(row(31, 30), 1), 2);
            due("bits above the row's are none of it", x.where(LEAST + 31, 1), 1);
            due("bits above the row's are none of it", x.where(-1, 1), 1);
            due("five of 31", x.where(-1, 5), NONE);
            // 33 and 1 have the same five bits
            exactly(x, 0, 33, 36);
            x.figures(0, 36, 5, 2);
            due("33", x.figure(1), 33);
            due("is not 1", x.where(1, 1), NONE);
            due("nor 1 and 1 with its sixth bit", x.where(33, 1), NONE);
        });
        on("NONE.", () -> {
            ConstantMill x = new ConstantMill();
            for (int n = 1; n <= 5; n++) {
                for (int wanted : new int[] {0, 1, -1, LEAST, MOST}) {
                    due("no result", x.where(wanted, n), NONE);
                }
            }
            exactly(x, 0, 4, 1);
            x.figures(0, 10, 4, 2);
            due("not the WHOLE", x.where(4, 1), NONE);
            due("four of four", x.where(0, 4), 1);
            due("five of four", x.where(0, 5), NONE);
            x.figures(0, 10, 0, 2);
            due("one of none", x.where(0, 1), NONE);
            x.figures(1, 10, 9, 2);
            due("nothing is SURE", x.where(0, 1), NONE);
            between(x, 0, 31415, 31425, 10000);
            x.figures(0, 10, 9, 1);
            due("1 4", x.where(row(1, 4), 2), 1);
            due("4, and then what is not SURE", x.where(row(4, 1), 2), NONE);
            due("5 is not SURE", x.where(5, 1), NONE);
        });
        on("OUTSIDE: n.", () -> {
            for (int bad : new int[] {0, -1, 6, LEAST, MOST}) {
                Furnished.keeps("n " + bad, OUTSIDE, x -> x.where(5, bad));
                due("no result, n " + bad, new ConstantMill().where(0, bad), OUTSIDE);
            }
        });
    }

    private static void about() {
        promise(26, "about");
        on("Of THE RESULT: 0 the CONSTANT, 1 base, 2 n, 3 N, 4 SURE figures (NONE).", () -> {
            ConstantMill x = new ConstantMill();
            eulers(x, 3, 5);
            int[][] asked = {{3, 16, 50, 20, 14}, {3, 2, 0, 3, 0}, {0, 36, 100, 100, NONE}, {3, 7, 1, 1, NONE},
                {3, 36, 100, 100, 100}, {1, 2, 0, 1, NONE}};
            for (int[] a : asked) {
                due("figures", x.figures(a[0], a[1], a[2], a[3]), a[4]);
                for (int what = 0; what < 5; what++) {
                    due("of " + what, x.about(what), a[what]);
                }
            }
            due("refused", x.figures(3, 10, 5, 0), OUTSIDE);
            x.rule(5, 3, 0, 0, 0);
            due("falls", x.figures(3, 10, 5, 50), -100);
            for (int what = 0; what < 5; what++) {
                due("of " + what + " still", x.about(what), asked[5][what]);
                int w = what;
                int[] first = {0, 10, 30, 20, 6};
                Furnished.keeps("asking", first[what], y -> y.about(w));
            }
        });
        on("OUTSIDE", () -> {
            for (int bad : new int[] {-1, 5, LEAST, MOST}) {
                Furnished.keeps("what " + bad, OUTSIDE, x -> x.about(bad));
                due("no result, what " + bad, new ConstantMill().about(bad), OUTSIDE);
            }
        });
        on("STATE: there is none.", () -> {
            ConstantMill x = new ConstantMill();
            for (int what = 0; what < 5; what++) {
                due("what " + what, x.about(what), STATE);
            }
            due("refused", x.figures(0, 1, 5, 5), OUTSIDE);
            due("none of it", x.about(0), STATE);
            x.part(0, 0, 1, 1);
            due("falls", x.figures(0, 10, 5, 5), -100);
            due("none of it", x.about(0), STATE);
            x.need(1, 10, 5);
            x.agree(1, 1, 10, 5, 5);
            due("none of need, agree", x.about(4), STATE);
            due("went, though nothing is SURE", x.figures(1, 10, 5, 5), NONE);
            due("so there is one", x.about(0), 1);
        });
    }

    private static void agree() {
        promise(27, "agree");
        on("The first figure (from 1 on; 0: SIGN or WHOLE) in which two CONSTANTS differ", () -> {
            ConstantMill x = new ConstantMill();
            exactly(x, 0, 12345, 10000);
            int[] others = {2234, 1334, 1244, 1235};
            for (int i = 0; i < 4; i++) {
                exactly(x, 1, others[i] * 10 + 5, 10000);
                due("1.2345 and " + others[i], x.agree(0, 1, 10, 9, 2), i);
                due("the other way", x.agree(1, 0, 10, 9, 2), i);
            }
            exactly(x, 1, 12346, 10000);
            due("the fourth", x.agree(0, 1, 10, 9, 2), 4);
            due("in base 2: 1.0011 1100 0000 1000 and 0011 1100 0000 1111", x.agree(0, 1, 2, 99, 2), 14);
            exactly(x, 1, -12345, 10000);
            due("the SIGN alone", x.agree(0, 1, 10, 9, 2), 0);
            due("the SIGN alone", x.agree(1, 0, 10, 9, 2), 0);
            exactly(x, 0, -12346, 10000);
            due("both below 0", x.agree(1, 0, 10, 9, 2), 4);
            exactly(x, 0, 1, 1000);
            exactly(x, 1, -1, 1000);
            due("the SIGN of 0.001", x.agree(0, 1, 10, 0, 2), 0);
            exactly(x, 2, 1, 3);
            exactly(x, 3, 333333, 1000000);
            due("the seventh", x.agree(2, 3, 10, 100, 2), 7);
        });
        on("in a base, n at most, with N TERMS each", () -> {
            ConstantMill x = new ConstantMill();
            exactly(x, 0, 12345, 10000);
            exactly(x, 1, 12346, 10000);
            due("four", x.agree(0, 1, 10, 4, 2), 4);
            due("three", x.agree(0, 1, 10, 3, 2), NONE);
            due("none", x.agree(0, 1, 10, 0, 2), NONE);
            due("0.8f.. and 0.8g.. in base 36", x.agree(0, 1, 36, 100, 2), 2);
            // 100 figures alike, and then not told
            exactly(x, 2, 1, 3);
            rules(x, 3, 1, 10, 3, 10);
            x.bound(3, 1, 10);
            x.part(3, 3, 1, 1);
            due("1/3 and 0.333..", x.agree(2, 3, 10, 90, 100), NONE);
            // with 2 TERMS 0.33 more or less 1/300, with 1 0.3 more or less 1/30
            due("with one TERM", x.figures(3, 10, 9, 1), 0);
            due("with two TERMS", x.figures(3, 10, 9, 2), 1);
            rules(x, 3, 1, 10, 4, 10);
            x.bound(3, 1, 10);
            due("4/9 with one TERM: none SURE", x.agree(2, 3, 10, 9, 1), NONE);
            due("with three: the first", x.agree(2, 3, 10, 9, 3), 1);
        });
        on("among those SURE of both", () -> {
            ConstantMill x = new ConstantMill();
            between(x, 0, 31415, 31425, 10000);
            between(x, 1, 31475, 31476, 10000);
            due("3.14 is SURE", x.figures(0, 10, 9, 1), 2);
            due("3.147 is SURE", x.figures(1, 10, 9, 1), 3);
            due("3.14", x.agree(0, 1, 10, 9, 1), NONE);
            due("the other way", x.agree(1, 0, 10, 9, 1), NONE);
            between(x, 1, 31375, 31376, 10000);
            due("the second is SURE", x.agree(0, 1, 10, 9, 1), 2);
            between(x, 1, 41415, 41425, 10000);
            due("the WHOLE is", x.agree(0, 1, 10, 9, 1), 0);
        });
        on("NONE: in none.", () -> {
            ConstantMill x = new ConstantMill();
            exactly(x, 0, 22, 7);
            exactly(x, 1, 22, 7);
            exactly(x, 2, -22, 7);
            due("alike", x.agree(0, 1, 10, 100, 2), NONE);
            due("itself", x.agree(0, 0, 10, 100, 2), NONE);
            due("itself below 0", x.agree(2, 2, 10, 100, 2), NONE);
            due("the WHOLE alone", x.agree(0, 1, 10, 0, 2), NONE);
        });
        on("(If the WHOLE of one is not SURE: NONE.)", () -> {
            ConstantMill x = new ConstantMill();
            exactly(x, 0, -22, 7);
            between(x, 1, 39, 40, 10);
            between(x, 2, -1, 1000, 10);
            for (int c = 1; c < 3; c++) {
                due("the second with 1 TERM", x.agree(0, c, 10, 9, 1), NONE);
                due("the first with 1 TERM", x.agree(c, 0, 10, 9, 1), NONE);
            }
            due("without parts", x.agree(0, 3, 10, 9, 2), NONE);
            due("without parts", x.agree(3, 0, 10, 9, 2), NONE);
            due("both without", x.agree(3, 3, 10, 9, 2), NONE);
            // one is above 0 and one below, yet of one no WHOLE is SURE
            exactly(x, 0, -22, 7);
            x.bound(0, 1, 1000000);
            due("-3.1428603.. to -3.1428539..", x.figures(0, 10, 9, 1), 4);
            due("the other's is not, but its SIGN", x.figures(1, 10, 9, 1), NONE);
            due("its SIGN", x.signOf(), 1);
            due("NONE, not 0", x.agree(0, 1, 10, 9, 1), NONE);
            due("NONE, not 0", x.agree(1, 0, 10, 9, 1), NONE);
        });
        on("UNKNOWN", () -> {
            for (int bad : NO_CONSTANT) {
                Furnished.keeps("c " + bad, UNKNOWN, x -> x.agree(bad, 0, 10, 5, 5));
                Furnished.keeps("d " + bad, UNKNOWN, x -> x.agree(0, bad, 10, 5, 5));
                Furnished.keeps("both", UNKNOWN, x -> x.agree(bad, bad, 10, 5, 5));
                Furnished.keeps("and all else", UNKNOWN, x -> x.agree(0, bad, 1, 101, 0));
                Furnished.keeps("and falling", UNKNOWN, x -> x.agree(2, bad, 10, 5, 5));
            }
        });
        on("OUTSIDE", () -> {
            for (int bad : new int[] {1, 0, -1, 37, LEAST, MOST}) {
                Furnished.keeps("base " + bad, OUTSIDE, x -> x.agree(0, 1, bad, 5, 5));
                Furnished.keeps("falling", OUTSIDE, x -> x.agree(2, 2, bad, 5, 5));
            }
            for (int bad : new int[] {-1, 101, LEAST, MOST}) {
                Furnished.keeps("n " + bad, OUTSIDE, x -> x.agree(0, 1, 10, bad, 5));
                Furnished.keeps("falling", OUTSIDE, x -> x.agree(2, 2, 10, bad, 5));
            }
            for (int bad : new int[] {0, -1, 101, LEAST, MOST}) {
                Furnished.keeps("N " + bad, OUTSIDE, x -> x.agree(0, 1, 10, 5, bad));
                Furnished.keeps("falling", OUTSIDE, x -> x.agree(2, 2, 10, 5, bad));
            }
            Furnished.keeps("the least of each", NONE, x -> x.agree(0, 1, 2, 0, 1));
            Furnished.keeps("the most of each", 0, x -> x.agree(0, 1, 36, 100, 100));
        });
        on("FALLS, the first one's ahead.", () -> {
            ConstantMill x = new ConstantMill();
            fallsAt(x, 0, 9);
            fallsAt(x, 1, 6);
            rules(x, 2, 0, 1, 1, 1);
            x.part(0, 0, 1, 1);
            x.part(1, 1, 1, 1);
            x.part(2, 2, 1, 1);
            due("9 and 6", x.agree(0, 1, 10, 5, 10), -109);
            due("6 and 9", x.agree(1, 0, 10, 5, 10), -106);
            due("only 6", x.agree(0, 1, 10, 5, 9), -106);
            due("only 6", x.agree(0, 1, 10, 5, 7), -106);
            due("neither", x.agree(0, 1, 10, 5, 6) >= NONE);
            due("the second alone", x.agree(2, 0, 10, 5, 100), -109);
            due("the first alone", x.agree(0, 2, 10, 5, 100), -109);
            due("though the first has no parts", x.agree(3, 1, 10, 5, 100), -106);
            due("and the other way", x.agree(1, 3, 10, 5, 100), -106);
            x.part(0, 5, 0, 1);
            due("its first part's", x.agree(0, 1, 10, 5, 10), -109);
            due("its second part's", x.agree(0, 1, 10, 5, 9), -100);
            x.clear(2);
            rules(x, 3, 1, 2, 1, 1);
            x.part(2, 3, 1, 1);
            due("just within its BOUND", x.agree(2, 2, 10, 5, 9), NONE);
            x.bound(3, 1, 3);
            due("beyond it", x.agree(2, 3, 10, 5, 9), -101);
            due("beyond it", x.agree(3, 2, 10, 5, 9), -101);
            due("0 alone is not asked", x.agree(2, 3, 10, 5, 1), NONE);
        });
        on("(THE RESULT stays.)", () -> {
            Furnished.keeps("they differ", 0, x -> x.agree(0, 1, 7, 9, 30));
            Furnished.keeps("they do not", NONE, x -> x.agree(1, 1, 7, 9, 30));
            Furnished.keeps("one falls", -104, x -> x.agree(1, 2, 7, 9, 30));
            ConstantMill x = new ConstantMill();
            eulers(x, 0, 0);
            due("there is none yet", x.agree(0, 0, 10, 3, 30), NONE);
            due("nor behind it", x.about(0), STATE);
            due("nor behind it", x.figure(1), NONE);
            due("nor behind it", x.signOf(), 0);
            due("nor behind it", x.whole(), 0);
        });
    }

    public static void main(String[] args) {
        signOf();
        whole();
        figure();
        count();
        where();
        about();
        agree();
        end();
    }
}
