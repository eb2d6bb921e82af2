/** Each promise of the document by itself: ordinary calls, the edges that it names, wrong numbers. */
public final class PromiseTest {
    private static final int NONE = -6, UNKNOWN = -1, OUTSIDE = -2, STATE = -3, FULL = -4, NO = -5;
    private static final int LEAST = Integer.MIN_VALUE, MOST = Integer.MAX_VALUE;
    private static int wrong = 0;
    private static int asked = 0;
    private static int promise = 0;

    private static void due(String what, long got, long want) {
        asked++;
        if (got != want) {
            wrong++;
            System.out.println("promise " + promise + ": " + what + " answered " + got + ", due is " + want);
        }
    }

    /** Sum s is that of (p / q) to the k, times a / b; its bound is u / v. */
    private static void geometric(ConstantMill x, int s, int p, int q, int a, int b, int u, int v) {
        x.rule(s, 0, p, 0, 0);
        x.rule(s, 1, q, 0, 0);
        x.rule(s, 2, a, 0, 0);
        x.rule(s, 3, b, 0, 0);
        x.bound(s, u, v);
    }

    private static void promise1() {
        ConstantMill x = new ConstantMill();
        for (int s = 0; s < 6; s++) {
            due("at p(0)", x.at(s, 0, 0), 1);
            due("at q(0)", x.at(s, 1, 0), 1);
            for (int which = 0; which < 4; which++) {
                due("at 1", x.at(s, which, 1), 0);
                due("at 99", x.at(s, which, 99), 0);
            }
            due("at a(0)", x.at(s, 2, 0), 0);
            due("at b(0)", x.at(s, 3, 0), 0);
            due("falls", x.falls(s, 100), 0);
        }
        for (int d = 0; d < 8; d++) {
            due("empty", x.empty(d), STATE);
            due("span", x.span(d, 0), STATE);
            due("bits", x.bits(d, 0), STATE);
            due("same", x.same(d, d), STATE);
            due("more", x.more(d, 0), STATE);
        }
        for (int c = 0; c < 4; c++) {
            due("told", x.told(c, 0, 0), -1000000001);
            due("clear", x.clear(c), 0);
        }
        due("signOf", x.signOf(), 0);
        due("whole", x.whole(), 0);
        due("about", x.about(0), STATE);
        // the BOUND is 1 / 2: a ratio of 1 / 2 is in it, one just above is not
        geometric(x, 0, 1, 2, 1, 1, 1, 2);
        ConstantMill y = new ConstantMill();
        y.rule(0, 0, 500, 0, 0);
        y.rule(0, 1, 999, 1, 0);
        y.rule(0, 2, 1, 0, 0);
        y.rule(0, 3, 1, 0, 0);
        due("500 / 1000 in the first bound", y.falls(0, 2), NONE);
        y.rule(0, 0, 501, 0, 0);
        due("501 / 1000 beyond it", y.falls(0, 2), 1);
    }

    private static void promise2() {
        ConstantMill x = new ConstantMill();
        due("rule", x.rule(0, 0, 999, -999, 999), 0);
        due("its value", x.at(0, 0, 2), 999 - 2 * 999 + 4 * 999);
        due("no sum", x.rule(-1, 0, 0, 0, 0), UNKNOWN);
        due("no sum", x.rule(6, 0, 0, 0, 0), UNKNOWN);
        due("no sum, all else wrong", x.rule(6, 9, 1000, 1000, 1000), UNKNOWN);
        due("no rule", x.rule(0, -1, 0, 0, 0), OUTSIDE);
        due("no rule", x.rule(0, 4, 0, 0, 0), OUTSIDE);
        due("c0", x.rule(0, 0, 1000, 0, 0), OUTSIDE);
        due("c0", x.rule(0, 0, -1000, 0, 0), OUTSIDE);
        due("c1", x.rule(0, 0, 0, 1000, 0), OUTSIDE);
        due("c1", x.rule(0, 0, 0, -1000, 0), OUTSIDE);
        due("c2", x.rule(0, 0, 0, 0, 1000), OUTSIDE);
        due("c2", x.rule(0, 0, 0, 0, LEAST), OUTSIDE);
        due("its value still", x.at(0, 0, 2), 999 - 2 * 999 + 4 * 999);
        geometric(x, 1, 1, 3, 1, 1, 1, 2);
        geometric(x, 2, 1, 3, 1, 1, 1, 2);
        x.grind(0, 1, 0, 5);
        x.grind(1, 2, 0, 5);
        x.grind(7, 1, 3, 3);
        due("refused: none emptied", x.rule(1, 0, 1000, 0, 0), OUTSIDE);
        due("still there", x.span(0, 0), 1);
        due("two emptied", x.rule(1, 2, 2, 0, 0), 2);
        due("emptied", x.span(0, 0), STATE);
        due("emptied", x.span(7, 0), STATE);
        due("that of another sum is not", x.span(1, 0), 2);
        due("none more", x.rule(1, 2, 3, 0, 0), 0);
        for (int which = 0; which < 4; which++) {
            due("one TERM", x.grind(1, 2, 0, 1), 1);
            due("each rule empties", x.rule(2, which, 1, 1, 0), 1);
        }
    }

    private static void promise3() {
        ConstantMill x = new ConstantMill();
        due("no sum", x.bound(-1, 1, 2), UNKNOWN);
        due("no sum", x.bound(6, 0, 0), UNKNOWN);
        due("u 0", x.bound(0, 0, 2), OUTSIDE);
        due("u below 0", x.bound(0, -1, 2), OUTSIDE);
        due("u is v", x.bound(0, 2, 2), OUTSIDE);
        due("u above v", x.bound(0, 3, 2), OUTSIDE);
        due("v too large", x.bound(0, 1, 1000001), OUTSIDE);
        due("far", x.bound(0, MOST - 1, MOST), OUTSIDE);
        due("least", x.bound(0, 1, 2), 0);
        due("most", x.bound(0, 999999, 1000000), 0);
        geometric(x, 0, 2, 3, 1, 1, 2, 3);
        due("just in it", x.falls(0, 100), NONE);
        x.grind(4, 0, 0, 9);
        x.grind(5, 0, 2, 9);
        due("refused", x.bound(0, 1, 1), OUTSIDE);
        due("still there", x.bits(4, 1), 13);
        due("emptied", x.bound(0, 666666, 1000000), 2);
        due("empty", x.bits(4, 1), STATE);
        due("just beyond it", x.falls(0, 100), 1);
        x.bound(0, 666667, 1000000);
        due("just in it", x.falls(0, 100), NONE);
    }

    private static void promise4() {
        ConstantMill x = new ConstantMill();
        for (int which = 0; which < 4; which++) {
            x.rule(3, which, 999, -5, which);
            due("at 0", x.at(3, which, 0), which < 2 ? 1 : 999);
            due("at 1", x.at(3, which, 1), 994 + which);
            due("at 99", x.at(3, which, 99), 999 - 495 + which * 9801);
            due("at -1", x.at(3, which, -1), -1000000002);
            due("at 100", x.at(3, which, 100), -1000000002);
        }
        x.rule(3, 3, -999, -999, -999);
        due("deepest", x.at(3, 3, 99), -999 * 9901);
        due("no sum", x.at(6, 0, 0), -1000000001);
        due("no sum", x.at(-1, 0, 100), -1000000001);
        due("no rule", x.at(0, 4, 0), -1000000001);
        due("no rule", x.at(0, -1, 100), -1000000001);
        due("far", x.at(0, 0, LEAST), -1000000002);
    }

    private static void promise5() {
        ConstantMill x = new ConstantMill();
        due("no sum", x.falls(6, 0), UNKNOWN);
        due("no sum", x.falls(-1, 101), UNKNOWN);
        due("n", x.falls(0, -1), OUTSIDE);
        due("n", x.falls(0, 101), OUTSIDE);
        due("none asked", x.falls(0, 0), NONE);
        due("b(0) is 0", x.falls(0, 1), 0);
        // q(k) is 0 at 7
        geometric(x, 0, 0, 1, 1, 1, 1, 2);
        x.rule(0, 1, 7, -1, 0);
        due("up to 6", x.falls(0, 7), NONE);
        due("q(7)", x.falls(0, 8), 7);
        due("q(7)", x.falls(0, 100), 7);
        // b(k) is 0 at 99
        geometric(x, 1, 0, 1, 1, 1, 1, 2);
        x.rule(1, 3, 99, -1, 0);
        due("up to 98", x.falls(1, 99), NONE);
        due("b(99)", x.falls(1, 100), 99);
        // the ratio of the terms goes up to 3 / 4 at k = 3
        geometric(x, 2, 0, 4, 1, 1, 2, 3);
        x.rule(2, 0, 0, -1, 0);
        due("2 / 4", x.falls(2, 3), NONE);
        due("3 / 4", x.falls(2, 4), 3);
        // a and b have their share: a(k) / a(k - 1) and b(k - 1) / b(k)
        geometric(x, 3, 1, 2, 1, 1, 3, 4);
        x.rule(3, 2, 1, 1, 0);
        due("1/2 times 2/1 is above 3/4", x.falls(3, 100), 1);
        x.rule(3, 2, 2, 1, 0);
        due("1/2 times 3/2 is 3/4", x.falls(3, 100), NONE);
        x.rule(3, 2, 1, 0, 0);
        x.rule(3, 3, -3, 1, 0);
        due("1/2 times -3/-2 is 3/4, times -2/-1 is above", x.falls(3, 100), 2);
        // a(k - 1) is 0 and the TERM behind it is not
        geometric(x, 4, 1, 2, 1, 1, 3, 4);
        x.rule(4, 2, 1, -1, 0);
        due("0 behind 1, and -1 behind 0", x.falls(4, 100), 2);
        // the products have 90 bits: 9891099 / 9891099 with the bound just below 1
        ConstantMill y = new ConstantMill();
        for (int which = 0; which < 4; which++) {
            y.rule(5, which, 999, 999, 999);
        }
        y.bound(5, 999999, 1000000);
        due("p a b is q b a: above the bound", y.falls(5, 100), 1);
        y.rule(5, 0, 998, 999, 999);
        y.rule(5, 2, 0, 0, 1);
        y.rule(5, 2, 999, 0, 0);
        due("goes down", y.falls(5, 100), NONE);
        y.rule(5, 3, 999, 0, 0);
        y.rule(5, 0, 999, 999, 999);
        y.rule(5, 1, 999, 999, 999);
        due("1 is above the bound", y.falls(5, 100), 1);
    }

    private static void promise6() {
        ConstantMill x = new ConstantMill();
        geometric(x, 0, -2, 5, 3, 7, 2, 5);
        due("no drawer", x.grind(8, 0, 0, 1), UNKNOWN);
        due("no drawer", x.grind(-1, 0, 5, 1), UNKNOWN);
        due("no sum", x.grind(0, 6, 0, 1), UNKNOWN);
        due("no sum", x.grind(0, -1, 0, 101), UNKNOWN);
        due("i", x.grind(0, 0, -1, 1), OUTSIDE);
        due("i above j", x.grind(0, 0, 2, 1), OUTSIDE);
        due("j", x.grind(0, 0, 0, 101), OUTSIDE);
        due("still empty", x.span(0, 0), STATE);
        due("three", x.grind(0, 0, 0, 3), 3);
        due("P is 4", x.word(0, 0, 0), 4);
        due("Q is 25", x.word(0, 1, 0), 25);
        due("B is 343", x.word(0, 2, 0), 343);
        // 3 (25 - 10 + 4) 49
        due("T is 2793", x.word(0, 3, 0), 2793);
        due("from 1 on", x.grind(0, 0, 1, 3), 2);
        due("P is 4", x.word(0, 0, 0), 4);
        due("T", x.word(0, 3, 0), 3 * 7 * 6);
        due("T is below 0", x.sign(0, 3), 2);
        due("all", x.grind(1, 0, 0, 100), 100);
        due("bits of 5 to the 99", x.bits(1, 1), 230);
        due("none", x.grind(2, 0, 100, 100), 0);
        due("P is 1", x.word(2, 0, 0), 1);
        due("T is 0", x.sign(2, 3), 0);
        // FALLS: the drawer is as it was
        x.rule(1, 2, 1, 0, 0);
        x.rule(1, 1, 4, 0, 0);
        x.rule(1, 3, 6, -1, 0);
        due("b(6)", x.grind(0, 1, 2, 9), -106);
        due("as it was", x.span(0, 1), 1);
        due("as it was", x.word(0, 3, 0), 3 * 7 * 6);
        due("beyond 6", x.grind(0, 1, 7, 9), 2);
        due("up to it", x.grind(0, 1, 2, 6), 4);
        due("q(0) is 1 anyway", x.grind(0, 1, 0, 0), 0);
        // the first of a SPAN is not measured against the TERM ahead of it
        geometric(x, 2, 9, 1, 1, 1, 1, 2);
        due("one", x.grind(3, 2, 4, 5), 1);
        due("two", x.grind(3, 2, 4, 6), -105);
    }

    private static void promise7() {
        ConstantMill x = new ConstantMill();
        geometric(x, 0, -2, 5, 3, 7, 2, 5);
        due("no drawer", x.more(8, 1), UNKNOWN);
        due("no drawer", x.more(-1, 101), UNKNOWN);
        due("n", x.more(0, -1), OUTSIDE);
        due("n", x.more(0, 101), OUTSIDE);
        due("far", x.more(0, MOST), OUTSIDE);
        due("empty", x.more(0, 100), STATE);
        x.grind(0, 0, 3, 10);
        x.grind(1, 0, 3, 100);
        due("beyond 100", x.more(0, 91), OUTSIDE);
        due("as it was", x.span(0, 2), 10);
        due("none", x.more(0, 0), 10);
        due("to 60", x.more(0, 50), 60);
        due("not yet", x.same(0, 1), 0);
        due("to 100", x.more(0, 40), 100);
        due("same", x.same(0, 1), 1);
        due("no more", x.more(0, 1), OUTSIDE);
        due("i", x.span(0, 1), 3);
        // FALLS at 6, with the TERMS ahead kept
        geometric(x, 1, 1, 4, 1, 1, 1, 2);
        x.rule(1, 3, 6, -1, 0);
        x.bound(1, 1, 2);
        due("six ahead", x.grind(2, 1, 0, 6), 6);
        x.grind(3, 1, 0, 2);
        due("b(6)", x.more(3, 9), -106);
        due("up to 6", x.span(3, 2), 6);
        due("same", x.same(2, 3), 1);
        due("again", x.more(3, 9), -106);
        due("still", x.same(2, 3), 1);
        // an empty SPAN has no TERM ahead; one with a TERM has
        geometric(x, 2, 9, 1, 1, 1, 1, 2);
        x.grind(4, 2, 5, 5);
        due("the first", x.more(4, 1), 6);
        due("9 is above 1 / 2", x.more(4, 1), -106);
        due("one TERM", x.span(4, 2), 6);
    }

    private static void promise8() {
        ConstantMill x = new ConstantMill();
        geometric(x, 0, -2, 5, 3, -7, 2, 5);
        geometric(x, 1, -2, 5, 3, -7, 2, 5);
        x.grind(0, 0, 2, 50);
        x.grind(1, 0, 50, 97);
        x.grind(2, 0, 2, 97);
        x.grind(3, 1, 50, 60);
        due("no drawer", x.join(8, 0, 1), UNKNOWN);
        due("no drawer", x.join(0, -1, 1), UNKNOWN);
        due("no drawer", x.join(0, 1, 8), UNKNOWN);
        due("empty", x.join(0, 6, 6), STATE);
        due("empty", x.join(6, 0, 6), STATE);
        due("empty and unknown", x.join(6, 0, 9), UNKNOWN);
        due("two sums", x.join(0, 3, 6), NO);
        due("the wrong way", x.join(1, 0, 6), NO);
        due("not one behind the other", x.join(0, 2, 6), NO);
        due("still empty", x.span(6, 0), STATE);
        due("joined", x.join(0, 1, 6), 95);
        due("same", x.same(6, 2), 1);
        due("the sum", x.span(6, 0), 0);
        due("i", x.span(6, 1), 2);
        due("j", x.span(6, 2), 97);
        due("d is as it was", x.span(0, 2), 50);
        due("into d", x.join(0, 1, 0), 95);
        due("same", x.same(0, 2), 1);
        x.grind(0, 0, 2, 50);
        due("into e", x.join(0, 1, 1), 95);
        due("same", x.same(1, 2), 1);
        due("i of e", x.span(1, 1), 2);
        x.grind(5, 0, 97, 97);
        due("with an empty one", x.join(1, 5, 5), 95);
        due("same", x.same(5, 2), 1);
        x.grind(5, 0, 7, 7);
        due("with itself", x.join(5, 5, 5), 0);
        // where they meet is not asked: 9 is above the bound
        geometric(x, 2, 9, 1, 1, 1, 1, 2);
        x.grind(0, 2, 4, 5);
        x.grind(1, 2, 5, 6);
        due("into one of another sum", x.join(0, 1, 6), 2);
        due("which has this sum now", x.span(6, 0), 2);
        due("meets", x.join(0, 1, 0), 2);
        due("T is 9 and 81", x.word(0, 3, 0), 90);
    }

    private static void promise9() {
        ConstantMill x = new ConstantMill();
        geometric(x, 0, 1, 5, 3, 7, 2, 5);
        x.grind(0, 0, 2, 50);
        x.grind(7, 0, 2, 2);
        due("no drawer", x.empty(8), UNKNOWN);
        due("no drawer", x.empty(-1), UNKNOWN);
        due("empty", x.empty(1), STATE);
        due("48", x.empty(0), 48);
        due("again", x.empty(0), STATE);
        due("no bits", x.bits(0, 0), STATE);
        due("an empty span is one", x.empty(7), 0);
        due("again", x.empty(7), STATE);
        due("it is not counted", x.rule(0, 0, 1, 0, 0), 0);
    }

    private static void promise10() {
        ConstantMill x = new ConstantMill();
        geometric(x, 5, 1, 5, 3, 7, 2, 5);
        x.grind(7, 5, 2, 50);
        due("sum", x.span(7, 0), 5);
        due("i", x.span(7, 1), 2);
        due("j", x.span(7, 2), 50);
        due("what", x.span(7, 3), OUTSIDE);
        due("what", x.span(7, -1), OUTSIDE);
        due("what, empty", x.span(0, 3), OUTSIDE);
        due("empty", x.span(0, 2), STATE);
        due("no drawer", x.span(8, 3), UNKNOWN);
        due("no drawer", x.span(-1, 0), UNKNOWN);
    }

    /** 2 to the 30, 60, .. and the numbers beside them are where a number's row may break. */
    private static void promise11() {
        ConstantMill x = new ConstantMill();
        geometric(x, 0, -2, 4, 1, -2, 1, 2);
        for (int n = 1; n <= 100; n++) {
            x.grind(0, 0, 0, n);
            due("P", x.bits(0, 0), n);
            due("Q", x.bits(0, 1), 2 * n - 1);
            due("B", x.bits(0, 2), n + 1);
        }
        // T is the sum of 1 / -2 times (-1/2) to the k, upon -2 to the n and 4 to the n - 1
        x.grind(0, 0, 0, 1);
        due("T is 1", x.bits(0, 3), 1);
        x.grind(0, 0, 0, 0);
        due("T is 0", x.bits(0, 3), 0);
        due("P is 1", x.bits(0, 0), 1);
        due("which", x.bits(0, 4), OUTSIDE);
        due("which", x.bits(0, -1), OUTSIDE);
        due("which, empty", x.bits(1, 4), OUTSIDE);
        due("empty", x.bits(1, 3), STATE);
        due("no drawer", x.bits(8, 4), UNKNOWN);
        due("no drawer", x.bits(-1, 0), UNKNOWN);
    }

    private static void promise12() {
        ConstantMill x = new ConstantMill();
        geometric(x, 0, -1, -3, 1, -1, 1, 2);
        x.grind(0, 0, 0, 2);
        due("P", x.sign(0, 0), 2);
        due("Q", x.sign(0, 1), 2);
        due("B", x.sign(0, 2), 1);
        // a b q(1) + a b p(1): 3 + 1
        due("T", x.sign(0, 3), 1);
        due("T is 4", x.word(0, 3, 0), 4);
        geometric(x, 1, 0, 3, 1, 1, 1, 2);
        x.grind(0, 1, 0, 5);
        due("P is 0", x.sign(0, 0), 0);
        x.rule(1, 2, 0, 0, 0);
        x.grind(0, 1, 0, 5);
        due("T is 0", x.sign(0, 3), 0);
        x.rule(1, 2, -1, 0, 0);
        x.grind(0, 1, 0, 5);
        due("T", x.sign(0, 3), 2);
        due("which", x.sign(0, 4), OUTSIDE);
        due("which", x.sign(0, -1), OUTSIDE);
        due("which, empty", x.sign(1, 4), OUTSIDE);
        due("empty", x.sign(1, 3), STATE);
        due("no drawer", x.sign(8, 4), UNKNOWN);
        due("no drawer", x.sign(-1, 0), UNKNOWN);
    }

    private static void promise13() {
        ConstantMill x = new ConstantMill();
        geometric(x, 0, -7, 900, 1, 1, 1, 2);
        x.grind(0, 0, 1, 8);
        due("-7 to the 7, by 10", x.rest(0, 0, 10), 7);
        due("by 7", x.rest(0, 0, 7), 0);
        due("by 2", x.rest(0, 0, 2), 1);
        due("by a million", x.rest(0, 0, 1000000), 1000000 - 823543);
        due("by one less: -1", x.rest(0, 0, 823542), 823541);
        x.grind(0, 0, 1, 73);
        due("7 to the 72, by 11", x.rest(0, 0, 11), 5);
        due("900 to the 72, by a million", x.rest(0, 1, 1000000), 0);
        x.grind(0, 0, 0, 0);
        due("0", x.rest(0, 3, 1000000), 0);
        due("m", x.rest(0, 0, 1), OUTSIDE);
        due("m", x.rest(0, 0, 0), OUTSIDE);
        due("m", x.rest(0, 0, 1000001), OUTSIDE);
        due("m", x.rest(0, 0, -7), OUTSIDE);
        due("m, empty", x.rest(1, 0, 1), OUTSIDE);
        due("which, empty", x.rest(1, 4, 7), OUTSIDE);
        due("which", x.rest(0, -1, 7), OUTSIDE);
        due("empty", x.rest(1, 0, 7), STATE);
        due("no drawer", x.rest(8, 4, 1), UNKNOWN);
        due("no drawer", x.rest(-1, 0, 7), UNKNOWN);
    }

    private static void promise14() {
        ConstantMill x = new ConstantMill();
        geometric(x, 0, -2, 999, 1, 1, 1, 2);
        x.grind(0, 0, 1, 100);
        for (int k = 0; k < 9; k++) {
            due("2 to the 99 at " + k, x.word(0, 0, k), k == 6 ? 8 : 0);
        }
        // 999 to the 3 is 997002999, in hexadecimal 3b6d06f7 and so 3b6d, 06f7
        x.grind(0, 0, 1, 4);
        due("lowest", x.word(0, 1, 0), 997002999 & 0xFFFF);
        due("next", x.word(0, 1, 1), 997002999 >> 16);
        due("none", x.word(0, 1, 2), 0);
        x.grind(0, 0, 1, 7);
        long six = 997002999L * 997002999L;
        for (int k = 0; k < 4; k++) {
            due("999 to the 6 at " + k, x.word(0, 1, k), six >> 16 * k & 0xFFFF);
        }
        due("far", x.word(0, 1, MOST), 0);
        due("far", x.word(0, 1, 1 << 28), 0);
        // ones alone: 4 to the n, upon 4 (1 - 1/4), is 3 + 3 times 4 + ..
        geometric(x, 1, 1, 4, 3, 1, 1, 4);
        x.grind(2, 1, 1, 49);
        due("96 bits", x.bits(2, 3), 96);
        for (int k = 0; k < 6; k++) {
            due("ones at " + k, x.word(2, 3, k), 0xFFFF);
        }
        due("none beyond", x.word(2, 3, 6), 0);
        due("k", x.word(0, 1, -1), OUTSIDE);
        due("k", x.word(0, 1, LEAST), OUTSIDE);
        due("k, empty", x.word(1, 1, -1), OUTSIDE);
        due("which, empty", x.word(1, 4, 0), OUTSIDE);
        due("which", x.word(0, -1, 0), OUTSIDE);
        due("empty", x.word(1, 0, 0), STATE);
        due("no drawer", x.word(8, 4, -1), UNKNOWN);
        due("no drawer", x.word(-1, 0, 0), UNKNOWN);
    }

    private static void promise15() {
        ConstantMill x = new ConstantMill();
        geometric(x, 0, 2, 5, 3, 7, 2, 5);
        geometric(x, 1, 2, 5, 3, 7, 2, 5);
        x.grind(0, 0, 3, 9);
        x.grind(1, 1, 5, 11);
        due("another place of another sum", x.same(0, 1), 1);
        due("itself", x.same(0, 0), 1);
        x.grind(1, 1, 5, 12);
        due("one more", x.same(0, 1), 0);
        x.rule(1, 0, -2, 0, 0);
        x.grind(1, 1, 3, 9);
        due("P is the same, T is not", x.same(0, 1), 0);
        x.grind(0, 0, 5, 6);
        for (int which = 0; which < 4; which++) {
            geometric(x, 1, 2, 5, 3, 7, 2, 5);
            x.rule(1, which, which == 0 ? -2 : which == 1 ? -5 : which == 2 ? -3 : -7, 0, 0);
            x.grind(1, 1, 5, 6);
            due("one of the NUMBERS has the other sign", x.same(0, 1), 0);
            due("and so the other way", x.same(1, 0), 0);
        }
        for (int s = 2; s < 4; s++) {
            geometric(x, s, 1, 1, 0, 1, 1, 2);
            x.rule(s, 2, s == 2 ? -3 : 3, s == 2 ? 2 : -2, 0);
            x.grind(2, s, 1, 2);
            x.grind(3, s, 2, 3);
            due("-1 + 1 and 1 - 1", x.join(2, 3, s + 2), 2);
            due("are 0", x.sign(s + 2, 3), 0);
        }
        due("0 has one sign", x.same(4, 5), 1);
        due("empty", x.same(0, 7), STATE);
        due("empty", x.same(7, 0), STATE);
        due("no drawer", x.same(7, 8), UNKNOWN);
        due("no drawer", x.same(-1, 7), UNKNOWN);
    }

    private static void promise16() {
        ConstantMill x = new ConstantMill();
        due("no constant", x.part(4, 0, 1, 0), UNKNOWN);
        due("no constant", x.part(-1, 0, 1, 1), UNKNOWN);
        due("no sum", x.part(0, 6, 1, 1), UNKNOWN);
        due("no sum", x.part(0, -1, 1, 0), UNKNOWN);
        due("m", x.part(0, 0, 1000001, 1), OUTSIDE);
        due("m", x.part(0, 0, -1000001, 1), OUTSIDE);
        due("m", x.part(0, 0, LEAST, 1), OUTSIDE);
        due("n", x.part(0, 0, 1, 0), OUTSIDE);
        due("n", x.part(0, 0, 1, -1), OUTSIDE);
        due("n", x.part(0, 0, 1, 1000001), OUTSIDE);
        due("one", x.part(0, 5, -1000000, 1000000), 1);
        due("two", x.part(0, 0, 1000000, 1), 2);
        due("three", x.part(0, 0, 0, 7), 3);
        due("four", x.part(0, 0, 0, 7), 4);
        due("full", x.part(0, 0, 0, 7), FULL);
        due("full, and m", x.part(0, 0, 1000001, 7), OUTSIDE);
        due("another", x.part(3, 0, 0, 7), 1);
        due("the first stays", x.told(0, 0, 0), 5);
        due("no fifth", x.told(0, 4, 0), -1000000001);
    }

    private static void promise17() {
        ConstantMill x = new ConstantMill();
        due("none", x.clear(0), 0);
        x.part(0, 1, 2, 3);
        x.part(0, 1, 2, 3);
        x.part(1, 1, 2, 3);
        due("two", x.clear(0), 2);
        due("none", x.clear(0), 0);
        due("no part", x.told(0, 0, 0), -1000000001);
        due("the other stays", x.told(1, 0, 0), 1);
        due("one again", x.part(0, 2, 4, 5), 1);
        due("a new one", x.told(0, 0, 1), 4);
        due("no constant", x.clear(4), UNKNOWN);
        due("no constant", x.clear(-1), UNKNOWN);
    }

    private static void promise18() {
        ConstantMill x = new ConstantMill();
        x.part(2, 5, -1000000, 1000000);
        x.part(2, 4, -1, 3);
        due("sum", x.told(2, 0, 0), 5);
        due("m", x.told(2, 0, 1), -1000000);
        due("n", x.told(2, 0, 2), 1000000);
        due("sum", x.told(2, 1, 0), 4);
        due("m", x.told(2, 1, 1), -1);
        due("n", x.told(2, 1, 2), 3);
        due("no part", x.told(2, 2, 0), -1000000001);
        due("no part", x.told(2, -1, 3), -1000000001);
        due("no constant", x.told(4, 0, 0), -1000000001);
        due("no constant", x.told(-1, 0, 9), -1000000001);
        due("what", x.told(2, 0, 3), -1000000002);
        due("what", x.told(2, 0, -1), -1000000002);
    }

    /** e is the sum of 1 / k!, with its BOUND from k = 1 on, so that the first ratio is 1 / 2. */
    private static void eulers(ConstantMill x, int sum) {
        geometric(x, sum, 1, 1, 1, 1, 1, 2);
        x.rule(sum, 1, 1, 1, 0);
    }

    private static String read(ConstantMill x) {
        StringBuilder text = new StringBuilder();
        for (int i = 1; i <= 101; i++) {
            int figure = x.figure(i);
            if (figure == NONE) {
                break;
            }
            text.append(Character.forDigit(figure, 36));
        }
        return text.toString();
    }

    private static void reads(ConstantMill x, String want) {
        String have = read(x);
        due("figures " + have + ", not " + want, have.equals(want) ? 1 : 0, 1);
    }

    private static void promise19() {
        ConstantMill x = new ConstantMill();
        due("no constant", x.figures(4, 1, 0, 0), UNKNOWN);
        due("no constant", x.figures(-1, 10, 0, 1), UNKNOWN);
        due("base", x.figures(0, 1, 0, 1), OUTSIDE);
        due("base", x.figures(0, 37, 0, 1), OUTSIDE);
        due("n", x.figures(0, 10, -1, 1), OUTSIDE);
        due("n", x.figures(0, 10, 101, 1), OUTSIDE);
        due("N", x.figures(0, 10, 5, 0), OUTSIDE);
        due("N", x.figures(0, 10, 5, 101), OUTSIDE);
        due("none has gone", x.about(0), STATE);
        due("without parts", x.figures(0, 10, 5, 5), NONE);
        due("sign", x.signOf(), 0);
        // e - 1, in many bases, cut down
        eulers(x, 0);
        x.part(1, 0, 1, 1);
        due("60 in base 10", x.figures(1, 10, 60, 60), 60);
        reads(x, "718281828459045235360287471352662497757247093699959574966967");
        due("cut, not rounded", x.figures(1, 10, 15, 60), 15);
        reads(x, "718281828459045");
        due("base 2", x.figures(1, 2, 40, 60), 40);
        reads(x, "1011011111100001010100010110001010001010");
        due("base 36", x.figures(1, 36, 12, 60), 12);
        reads(x, "puw5nggjf8y4");
        due("only what is sure", x.figures(1, 10, 60, 20), 17);
        reads(x, "71828182845904523");
        due("none asked", x.figures(1, 10, 0, 60), 0);
        due("whole", x.whole(), 1);
        // the same number below 0, and twice it upon 2
        x.part(2, 0, -7, 7);
        due("below 0", x.figures(2, 10, 60, 20), 17);
        due("sign", x.signOf(), -1);
        due("whole", x.whole(), 1);
        reads(x, "71828182845904523");
        // E: one TERM 1 is 1 more or less 1, two TERMS are 3/2 more or less 1/2
        due("LOW is 0", x.figures(1, 10, 5, 1), NONE);
        due("sign", x.signOf(), 0);
        due("1 to 2", x.figures(1, 10, 5, 2), NONE);
        due("sign", x.signOf(), 1);
        due("19/12 to 21/12: 1.5.. and 1.7..", x.figures(1, 10, 5, 3), 0);
        due("whole", x.whole(), 1);
        // exact sums: all is sure
        geometric(x, 1, 0, 1, 1, 7, 1, 2);
        x.part(3, 1, 1000000, 1);
        due("a million sevenths", x.figures(3, 10, 100, 2), 100);
        due("whole", x.whole(), 142857);
        due("figure", x.figure(100), 8);
        x.clear(3);
        x.part(3, 1, -7, 1);
        due("-1", x.figures(3, 36, 100, 9), 100);
        due("sign", x.signOf(), -1);
        due("whole", x.whole(), 1);
        due("figure", x.figure(100), 0);
        x.part(3, 1, 7, 1);
        due("0", x.figures(3, 36, 100, 9), NONE);
        due("sign", x.signOf(), 0);
        // B or Q below 0 turn the sign: -2/3 times 7/8
        geometric(x, 4, 1, -7, 2, -3, 1, 7);
        x.clear(3);
        x.part(3, 4, 1, 1);
        for (int terms = 9; terms <= 12; terms++) {
            due("-7/12", x.figures(3, 10, 5, terms), 5);
            due("sign", x.signOf(), -1);
            due("whole", x.whole(), 0);
            reads(x, "58333");
        }
        // parts with m = 0 count for nothing but their FALLS
        x.clear(3);
        x.part(3, 1, 7, 1);
        x.part(3, 5, 0, 1);
        due("sum 5 falls at 0", x.figures(3, 12, 5, 5), -100);
        due("the result stays", x.about(0), 3);
        due("the result stays", x.about(1), 10);
        geometric(x, 5, 1, 3, 1, 1, 1, 3);
        due("1", x.figures(3, 10, 5, 5), 5);
        // FALLS: the first such part's
        geometric(x, 2, 1, 3, 1, 1, 1, 3);
        x.rule(2, 3, -5, 1, 0);
        x.bound(2, 9, 10);
        geometric(x, 3, 1, 3, 1, 1, 1, 3);
        x.rule(3, 3, -3, 1, 0);
        x.bound(3, 9, 10);
        x.clear(3);
        x.part(3, 1, 7, 1);
        x.part(3, 2, 1, 1);
        x.part(3, 3, 1, 1);
        due("b(5)", x.figures(3, 10, 5, 6), -105);
        due("b(3)", x.figures(3, 10, 5, 5), -103);
        due("b(3)", x.figures(3, 10, 5, 4), -103);
        due("none", x.figures(3, 10, 5, 3) >= NONE ? 1 : 0, 1);
    }

    private static void promise20() {
        ConstantMill x = new ConstantMill();
        eulers(x, 0);
        x.part(1, 0, 1, 1);
        due("no constant", x.need(4, 1, 0), UNKNOWN);
        due("no constant", x.need(-1, 10, 0), UNKNOWN);
        due("base", x.need(1, 1, 0), OUTSIDE);
        due("base", x.need(1, 37, 0), OUTSIDE);
        due("n", x.need(1, 10, -1), OUTSIDE);
        due("n", x.need(1, 10, 101), OUTSIDE);
        due("without parts", x.need(0, 10, 0), NO);
        x.figures(1, 10, 20, 2);
        due("the whole", x.need(1, 10, 0), 3);
        for (int n = 0; n <= 100; n += 20) {
            int terms = x.need(1, 7, n);
            due("the result stays", x.about(2), 20);
            ConstantMill y = new ConstantMill();
            eulers(y, 0);
            y.part(1, 0, 1, 1);
            due("enough", y.figures(1, 7, n, terms), n);
            due("one less is not", y.figures(1, 7, n, terms - 1) < n ? 1 : 0, 1);
        }
        due("the result stays", x.about(4), NONE);
        // 1/2 a TERM: 100 TERMS give 99 bits
        geometric(x, 1, 1, 2, 2, 3, 1, 2);
        x.part(2, 1, 1, 1);
        // HIGH is 4/3, LOW 4/3 (1 - 2 to the 1 - N): 8/3 times 2 to the n - N is to be 1/3 at
        // most with an even n, 2/3 with an odd one
        due("4/3 in 90 bits", x.need(2, 2, 90), 93);
        due("in 97", x.need(2, 2, 97), 99);
        due("in 98", x.need(2, 2, 98), NO);
        due("in 99", x.need(2, 2, 99), NO);
        due("in 100", x.need(2, 2, 100), NO);
        // it falls at 5: up to 5 TERMS
        geometric(x, 2, 1, 100, 1, 1, 9, 10);
        x.rule(2, 3, 5, -1, 0);
        x.part(3, 2, 1, 1);
        int most = 0;
        for (int n = 0; n <= 20; n++) {
            int terms = x.need(3, 10, n);
            most = terms == NO ? most : n;
            due("not beyond its fall", terms <= 5 ? 1 : 0, 1);
        }
        due("as many as with 5", x.figures(3, 10, 100, 5), most);
        // it falls at 0, and of two SUMS the first fall counts
        x.part(0, 5, 1, 1);
        due("none to try", x.need(0, 10, 0), NO);
        x.part(3, 5, 1, 1);
        due("none to try", x.need(3, 10, 0), NO);
        x.clear(3);
        x.part(3, 2, 1, 1);
        due("a part that was cleared is not asked", x.need(3, 10, 0), 2);
        // one TERM is enough, and its ratio to the second one lets it fall
        geometric(x, 2, 1, 999, 3, 2, 1, 999);
        due("3/2 more or less 3/1996, then 1.5015..", x.need(3, 10, 2), 2);
        due("the whole", x.need(3, 10, 0), 1);
        x.bound(2, 1, 1000000);
        due("with just one", x.need(3, 3, 9), 1);
        due("which falls at 1", x.need(3, 10, 9), NO);
        // exact from the first TERM on
        geometric(x, 5, 1, 3, 1, 4, 1, 3);
        x.rule(5, 2, 0, 0, 0);
        due("0 never is", x.need(0, 10, 0), NO);
        geometric(x, 5, 0, 3, 1, 4, 1, 3);
        due("exact with the second", x.need(0, 36, 100), 2);
    }

    private static void promise21() {
        ConstantMill x = new ConstantMill();
        due("none", x.signOf(), 0);
        geometric(x, 0, 1, 3, 1, 4, 1, 2);
        x.part(0, 0, 1, 1);
        x.figures(0, 10, 5, 9);
        due("above", x.signOf(), 1);
        x.clear(0);
        due("stays", x.signOf(), 1);
        x.part(0, 0, -1, 1);
        x.figures(0, 10, 5, 9);
        due("beneath", x.signOf(), -1);
        x.figures(0, 10, 5, 101);
        due("refused", x.signOf(), -1);
        x.figures(1, 10, 5, 9);
        due("without parts", x.signOf(), 0);
        // one TERM: 1/4 more or less 1/4, and -1/4 more or less 1/4
        x.figures(0, 10, 5, 1);
        due("HIGH is 0", x.signOf(), 0);
        x.bound(0, 499999, 1000000);
        x.figures(0, 10, 5, 1);
        due("HIGH is below 0", x.signOf(), -1);
        due("yet no whole one", x.about(4), 0);
        x.bound(0, 500001, 1000000);
        x.figures(0, 10, 5, 1);
        due("HIGH is above 0", x.signOf(), 0);
    }

    private static void promise22() {
        ConstantMill x = new ConstantMill();
        due("none", x.whole(), 0);
        geometric(x, 0, 0, 1, 999, 1, 1, 2);
        x.part(0, 0, 1000000, 1);
        x.part(0, 0, 1000000, 1);
        x.part(0, 0, 1000000, 1);
        x.part(0, 0, 999999, 1);
        x.figures(0, 10, 5, 2);
        due("a large one", x.whole(), 999L * 3999999);
        geometric(x, 1, 998, 999, 999, 1, 998, 999);
        x.clear(0);
        for (int i = 0; i < 4; i++) {
            x.part(0, 1, 1000000, 1);
        }
        due("far from sure", x.figures(0, 10, 5, 100), NONE);
        due("so none", x.whole(), 0);
        x.clear(0);
        geometric(x, 1, 0, 1, 1, 3, 1, 2);
        x.part(0, 1, -10, 1);
        x.figures(0, 10, 5, 2);
        due("without its sign", x.whole(), 3);
        x.clear(0);
        due("stays", x.whole(), 3);
        x.figures(0, 10, 5, 2);
        due("none", x.whole(), 0);
    }

    /** need and agree tell figures, too, but not as THE RESULT. */
    private static void noResultYet(ConstantMill x) {
        geometric(x, 0, 0, 1, 1, 7, 1, 2);
        x.part(0, 0, 22, 1);
        due("need", x.need(0, 10, 6), 2);
        due("agree", x.agree(0, 0, 10, 6, 2), NONE);
        due("no sign", x.signOf(), 0);
        due("no whole", x.whole(), 0);
        due("no figure", x.figure(1), NONE);
        due("no count", x.count(1), 0);
        due("no place", x.where(1, 1), NONE);
        due("no result", x.about(4), STATE);
        x.clear(0);
    }

    private static void promise23() {
        ConstantMill x = new ConstantMill();
        due("no result", x.figure(1), NONE);
        due("no result", x.figure(0), NONE);
        due("no result", x.figure(-1), NONE);
        due("no result", x.figure(100), NONE);
        due("no result", x.figure(MOST), NONE);
        due("no result", x.figure(LEAST), NONE);
        due("refused", x.figures(0, 1, 5, 5), OUTSIDE);
        due("no result came of it", x.figure(1), NONE);
        x.part(1, 0, 1, 1);
        due("it falls", x.figures(1, 10, 5, 5), -100);
        due("no result came of it", x.figure(1), NONE);
        x.clear(1);
        noResultYet(x);
        geometric(x, 0, 0, 1, 1, 7, 1, 2);
        x.part(0, 0, 22, 1);
        x.figures(0, 10, 6, 2);
        int[] want = {1, 4, 2, 8, 5, 7};
        for (int i = 1; i <= 6; i++) {
            due("22 / 7 at " + i, x.figure(i), want[i - 1]);
        }
        due("0", x.figure(0), NONE);
        due("7", x.figure(7), NONE);
        due("-1", x.figure(-1), NONE);
        due("far", x.figure(MOST), NONE);
        due("far", x.figure(LEAST), NONE);
        x.figures(0, 36, 100, 2);
        due("in base 36", x.figure(100), 5);
        due("101", x.figure(101), NONE);
        x.figures(1, 36, 100, 2);
        due("none is sure", x.figure(1), NONE);
    }

    private static void promise24() {
        ConstantMill x = new ConstantMill();
        due("no result", x.count(0), 0);
        due("no result, figure", x.count(36), OUTSIDE);
        geometric(x, 0, 0, 1, 1, 7, 1, 2);
        x.part(0, 0, 22, 1);
        x.figures(0, 10, 100, 2);
        due("1", x.count(1), 17);
        due("4", x.count(4), 17);
        due("2", x.count(2), 17);
        due("8", x.count(8), 17);
        due("5", x.count(5), 16);
        due("7", x.count(7), 16);
        due("0", x.count(0), 0);
        due("35", x.count(35), 0);
        due("36", x.count(36), OUTSIDE);
        due("-1", x.count(-1), OUTSIDE);
        x.figures(0, 10, 3, 2);
        due("just those told", x.count(8), 0);
        due("just those told", x.count(2), 1);
        x.figures(0, 10, 0, 2);
        due("none", x.count(1), 0);
        geometric(x, 0, 0, 1, 1, 35, 1, 2);
        x.clear(0);
        x.part(0, 0, 1, 1);
        x.figures(0, 36, 7, 2);
        due("1 / 35 is 0.111..", x.count(1), 7);
        geometric(x, 0, 0, 1, 1, 36, 1, 2);
        x.clear(0);
        x.part(0, 0, 36 * 35 + 35, 36);
        x.figures(0, 36, 5, 2);
        due("35 / 36 and 35 / 1296 are 0.zz", x.count(35), 2);
        due("and three zeros", x.count(0), 3);
    }

    private static void promise25() {
        ConstantMill x = new ConstantMill();
        for (int n = 1; n <= 5; n++) {
            due("no result", x.where(0, n), NONE);
            due("no result", x.where(MOST, n), NONE);
            due("no result", x.where(LEAST, n), NONE);
        }
        due("no result, n", x.where(0, 0), OUTSIDE);
        due("no result, n", x.where(0, 6), OUTSIDE);
        due("refused", x.figures(0, 10, 5, 0), OUTSIDE);
        due("no result came of it", x.where(0, 1), NONE);
        noResultYet(x);
        geometric(x, 0, 0, 1, 1, 7, 1, 2);
        x.part(0, 0, 22, 1);
        x.figures(0, 10, 12, 2);
        due("1", x.where(1, 1), 1);
        due("7", x.where(7, 1), 6);
        due("14", x.where(1 << 5 | 4, 2), 1);
        due("71", x.where(7 << 5 | 1, 2), 6);
        due("57142", x.where(5 << 20 | 7 << 15 | 1 << 10 | 4 << 5 | 2, 5), 5);
        due("14285", x.where(1 << 20 | 4 << 15 | 2 << 10 | 8 << 5 | 5, 5), 1);
        due("41", x.where(4 << 5 | 1, 2), NONE);
        due("9", x.where(9, 1), NONE);
        due("04", x.where(4, 2), NONE);
        due("bits beyond the row's", x.where(3 << 10 | 1 << 5 | 4, 2), 1);
        due("bits beyond the row's", x.where(-32 + 4, 1), 2);
        due("n", x.where(1, 0), OUTSIDE);
        due("n", x.where(1, 6), OUTSIDE);
        due("n", x.where(1, -1), OUTSIDE);
        x.figures(0, 10, 4, 2);
        due("28", x.where(2 << 5 | 8, 2), 3);
        due("285 goes beyond", x.where(2 << 10 | 8 << 5 | 5, 3), NONE);
        x.figures(0, 10, 3, 2);
        due("five of three", x.where(0, 5), NONE);
        x.figures(1, 10, 3, 2);
        due("none is sure", x.where(0, 1), NONE);
        // a figure of 32 or more does not fit into five bits
        geometric(x, 0, 0, 1, 1, 35, 1, 2);
        x.clear(0);
        x.part(0, 0, 33, 1);
        due("33 / 35", x.figures(0, 36, 9, 2), 9);
        due("is 0.xxx..", x.figure(1), 33);
        due("which is not 1", x.where(1, 1), NONE);
    }

    private static void promise26() {
        ConstantMill x = new ConstantMill();
        due("none", x.about(0), STATE);
        due("none", x.about(4), STATE);
        due("what", x.about(5), OUTSIDE);
        due("what", x.about(-1), OUTSIDE);
        eulers(x, 0);
        x.part(3, 0, 1, 1);
        x.figures(3, 16, 50, 20);
        due("constant", x.about(0), 3);
        due("base", x.about(1), 16);
        due("n", x.about(2), 50);
        due("N", x.about(3), 20);
        due("figures", x.about(4), 14);
        due("what", x.about(5), OUTSIDE);
        due("what", x.about(-1), OUTSIDE);
        x.clear(3);
        x.rule(0, 2, 0, 0, 0);
        x.need(3, 10, 7);
        x.agree(3, 3, 10, 7, 7);
        due("stays", x.about(0), 3);
        due("stays", x.about(1), 16);
        due("stays", x.about(2), 50);
        due("stays", x.about(3), 20);
        due("stays", x.about(4), 14);
        due("stays", x.figure(1), 11);
        x.figures(2, 7, 0, 1);
        due("constant", x.about(0), 2);
        due("base", x.about(1), 7);
        due("n", x.about(2), 0);
        due("N", x.about(3), 1);
        due("figures", x.about(4), NONE);
    }

    private static void promise27() {
        ConstantMill x = new ConstantMill();
        geometric(x, 0, 0, 1, 1, 7, 1, 2);
        geometric(x, 1, 0, 1, 1, 500, 1, 2);
        x.part(0, 0, 22, 1);
        x.part(1, 1, 1571, 1);
        x.part(2, 1, -1571, 1);
        due("no constant", x.agree(4, 0, 1, 5, 5), UNKNOWN);
        due("no constant", x.agree(0, -1, 10, 5, 5), UNKNOWN);
        due("base", x.agree(0, 1, 1, 5, 5), OUTSIDE);
        due("base", x.agree(0, 1, 37, 5, 5), OUTSIDE);
        due("n", x.agree(0, 1, 10, -1, 5), OUTSIDE);
        due("n", x.agree(0, 1, 10, 101, 5), OUTSIDE);
        due("N", x.agree(0, 1, 10, 5, 0), OUTSIDE);
        due("N", x.agree(0, 1, 10, 5, 101), OUTSIDE);
        due("3.142857 and 3.142000", x.agree(0, 1, 10, 5, 5), 4);
        due("the other way", x.agree(1, 0, 10, 5, 5), 4);
        due("at the fourth", x.agree(0, 1, 10, 4, 5), 4);
        due("three of them", x.agree(0, 1, 10, 3, 5), NONE);
        due("sign", x.agree(1, 2, 10, 3, 5), 0);
        x.part(3, 1, 1750, 1);
        due("3.142 and 3.5 differ in the first", x.agree(1, 3, 10, 3, 5), 1);
        x.clear(3);
        due("-3.142 and itself", x.agree(2, 2, 10, 100, 5), NONE);
        x.part(1, 1, 1000, 1);
        due("whole", x.agree(0, 1, 10, 0, 5), 0);
        due("whole of one is not sure", x.agree(0, 3, 10, 5, 5), NONE);
        due("whole of one is not sure", x.agree(3, 0, 10, 5, 5), NONE);
        due("no result came of it", x.about(0), STATE);
        // only the figures that both have: e - 1 with few TERMS, and 1.7
        eulers(x, 2);
        x.clear(0);
        x.clear(1);
        x.part(0, 2, 1, 1);
        x.part(1, 1, 1719, 2);
        due("1.718.. and 1.719", x.agree(0, 1, 10, 100, 20), 3);
        due("1.7 is sure of e - 1 with 5 TERMS", x.figures(0, 10, 100, 5), 1);
        due("so they agree", x.agree(0, 1, 10, 100, 5), NONE);
        due("the result stays", x.about(1), 10);
        due("the result stays", x.about(3), 5);
        // FALLS, the first one's ahead
        geometric(x, 3, 0, 1, 1, 1, 1, 2);
        x.rule(3, 3, -2, 1, 0);
        geometric(x, 4, 0, 1, 1, 1, 1, 2);
        x.rule(4, 3, -4, 1, 0);
        x.clear(1);
        x.clear(2);
        x.part(1, 3, 1, 1);
        x.part(2, 4, 1, 1);
        due("2", x.agree(1, 2, 10, 5, 9), -102);
        due("4", x.agree(2, 1, 10, 5, 9), -104);
        due("only the second", x.agree(2, 1, 10, 5, 4), -102);
        due("without parts and falling", x.agree(3, 1, 10, 5, 4), -102);
        due("neither", x.agree(2, 1, 10, 5, 2) >= NONE ? 1 : 0, 1);
        due("the result stays", x.about(3), 5);
    }

    private static void run(int which) {
        promise = which;
        switch (which) {
            case 1: promise1(); break;
            case 2: promise2(); break;
            case 3: promise3(); break;
            case 4: promise4(); break;
            case 5: promise5(); break;
            case 6: promise6(); break;
            case 7: promise7(); break;
            case 8: promise8(); break;
            case 9: promise9(); break;
            case 10: promise10(); break;
            case 11: promise11(); break;
            case 12: promise12(); break;
            case 13: promise13(); break;
            case 14: promise14(); break;
            case 15: promise15(); break;
            case 16: promise16(); break;
            case 17: promise17(); break;
            case 18: promise18(); break;
            case 19: promise19(); break;
            case 20: promise20(); break;
            case 21: promise21(); break;
            case 22: promise22(); break;
            case 23: promise23(); break;
            case 24: promise24(); break;
            case 25: promise25(); break;
            case 26: promise26(); break;
            default: promise27();
        }
    }

    public static void main(String[] args) {
        for (int i = 1; i <= 27; i++) {
            run(i);
        }
        System.out.println(asked + " answers asked, " + wrong + " wrong");
        if (wrong != 0) {
            System.exit(1);
        }
    }
}
