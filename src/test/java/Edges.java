import java.io.IOException;
import java.math.BigInteger;
import java.nio.file.Files;
import java.nio.file.Path;

/**
 * For tests that go through the document sentence by sentence: each test is put beside the words
 * that it holds the class to. The words must stand in the document, each such test must ask
 * something, and at a section's end no words may be left beside which there is no test.
 */
class Edges {
    static final int NONE = -6, UNKNOWN = -1, OUTSIDE = -2, STATE = -3, FULL = -4, NO = -5;
    static final int LEAST = Integer.MIN_VALUE, MOST = Integer.MAX_VALUE;

    /** What at and told say instead of UNKNOWN and OUTSIDE. */
    static final int NO_SUCH = -1000000001, NOT_THERE = -1000000002;

    private static final String DOCUMENT = read("../shared/DOC.md");
    private static String heading = "";
    private static String section = "";
    private static boolean[] tested = {};
    private static String sentence = "";
    private static int sentences = 0;
    private static int asked = 0;
    private static int wrong = 0;

    private static String read(String file) {
        try {
            return Files.readString(Path.of(file));
        } catch (IOException e) {
            throw new IllegalStateException(file + " can't be read", e);
        }
    }

    /** The tests behind this are for the section with that heading. */
    static void section(String name) {
        endSection();
        heading = name;
        int start = DOCUMENT.indexOf("\n## " + name + "\n");
        int from = start < 0 ? 0 : start + name.length() + 5;
        int to = DOCUMENT.indexOf("\n## ", from);
        section = plain(start < 0 ? "" : DOCUMENT.substring(from, to < 0 ? DOCUMENT.length() : to));
        tested = new boolean[section.length()];
        if (section.isEmpty()) {
            complain("there is no such section");
        }
    }

    /** For a promise: the section is that of its number, and its signature needs no test. */
    static void promise(int number, String name) {
        section("Promise " + number + ": " + name);
        int end = section.indexOf("): ");
        for (int i = 0; i < end; i++) {
            tested[i] = true;
        }
    }

    private static String plain(String text) {
        return text.replace("```text", " ").replace("```", " ").replace("========", " ")
                .replace("`", "").replaceAll("\\s+", " ").strip();
    }

    private static void cover(String words) {
        sentence = words;
        int at = section.indexOf(words);
        while (at >= 0 && tested[at]) {
            at = section.indexOf(words, at + 1);
        }
        if (at < 0) {
            complain("these words do not stand there, or twice have a test");
            return;
        }
        for (int i = at; i < at + words.length(); i++) {
            tested[i] = true;
        }
    }

    /** The test of a sentence. */
    static void on(String words, Runnable test) {
        cover(words);
        int before = asked;
        test.run();
        sentences++;
        if (asked == before) {
            complain("asks nothing");
        }
    }

    /** Words that tell nothing which a call could answer wrongly. */
    static void free(String words) {
        cover(words);
    }

    static void due(String what, long got, long want) {
        asked++;
        if (got != want) {
            complain(what + " answered " + got + ", due is " + want);
        }
    }

    static void due(String what, boolean holds) {
        due(what, holds ? 1 : 0, 1);
    }

    static void due(String what, String got, String want) {
        asked++;
        if (!got.equals(want)) {
            complain(what + " answered " + got + ", due is " + want);
        }
    }

    private static void complain(String what) {
        wrong++;
        if (wrong <= 60) {
            System.out.println(heading + ", \"" + sentence + "\": " + what);
        }
    }

    private static void endSection() {
        StringBuilder left = new StringBuilder();
        for (int i = 0; i < section.length(); i++) {
            left.append(tested[i] ? '\n' : section.charAt(i));
        }
        for (String words : left.toString().split("\n")) {
            if (words.matches(".*[A-Za-z0-9].*")) {
                sentence = words.strip();
                complain("there is no test for these words");
            }
        }
    }

    /** Each promise of the document has its place in one of the tests that go sentence by sentence. */
    static void everyPromise() {
        endSection();
        section = "";
        StringBuilder tests = new StringBuilder();
        for (String name : new String[] {"Sums", "Drawers", "Constants", "Result"}) {
            tests.append(read("src/test/java/" + name + "EdgeTest.java"));
        }
        int promises = 0;
        for (String line : DOCUMENT.split("\n")) {
            if (line.startsWith("## Promise ")) {
                promises++;
                sentence = line;
                String call = line.substring(11).replaceFirst(": (.*)", ", \"$1\")");
                due("tests that name it", tests.indexOf("promise(" + call) >= 0);
            }
        }
        due("promises", promises, 27);
    }

    /** Ends the program, with 1 if an answer was wrong or words are left. */
    static void end() {
        endSection();
        System.out.println(sentences + " sentences, " + asked + " answers asked, " + wrong + " wrong");
        if (wrong != 0) {
            System.exit(1);
        }
    }

    // ---- sums and constants whose answers can be told by heart

    /** Sum s is that of (p / q) to the k times a / b. */
    static void rules(ConstantMill x, int s, int p, int q, int a, int b) {
        x.rule(s, 0, p, 0, 0);
        x.rule(s, 1, q, 0, 0);
        x.rule(s, 2, a, 0, 0);
        x.rule(s, 3, b, 0, 0);
    }

    /** As rules, with its ratio p / q as its BOUND. */
    static void geometric(ConstantMill x, int s, int p, int q) {
        rules(x, s, p, q, 1, 1);
        x.bound(s, Math.abs(p), Math.abs(q));
    }

    /**
     * Constant c, by sum c, such that with 1 TERM LOW is low / below and HIGH is high / below: its X
     * is half of both, and u / (v - u) is what E is of it.
     */
    static void between(ConstantMill x, int c, int low, int high, int below) {
        rules(x, c, 0, 1, 1, 1);
        int u = high - low;
        x.bound(c, u, u + Math.abs(high + low));
        x.clear(c);
        x.part(c, c, high + low, 2 * below);
    }

    /** Constant c, by sum c, such that with 2 TERMS or more LOW and HIGH are m / n. */
    static void exactly(ConstantMill x, int c, int m, int n) {
        rules(x, c, 0, 1, 1, 1);
        x.bound(c, 1, 2);
        x.clear(c);
        x.part(c, c, m, n);
    }

    /** Sum s is 0 / 1 but for b, which is 0 at k. */
    static void fallsAt(ConstantMill x, int s, int k) {
        rules(x, s, 0, 1, 1, 0);
        x.rule(s, 3, k, -1, 0);
    }

    /** Sum s is 1, constant c is e - 1: sum of 1 / (k + 1)!. */
    static void eulers(ConstantMill x, int c, int s) {
        rules(x, s, 1, 0, 1, 1);
        x.rule(s, 1, 1, 1, 0);
        x.bound(s, 1, 2);
        x.clear(c);
        x.part(c, s, 1, 1);
    }

    /** THE RESULT: its sign, WHOLE and figures, such as -3.14; or its sign and none. */
    static String result(ConstantMill x) {
        StringBuilder text = new StringBuilder();
        text.append(x.signOf() < 0 ? "-" : x.signOf() > 0 ? "+" : "0");
        if (x.about(4) == NONE) {
            return text.append(" none").toString();
        }
        text.append(x.whole()).append('.');
        for (int i = 1; i <= x.about(4); i++) {
            int figure = x.figure(i);
            text.append(figure < 0 || figure > 35 ? '?' : Character.forDigit(figure, 36));
        }
        return text.toString();
    }

    /** A NUMBER, put together from its words. */
    static BigInteger number(ConstantMill x, int drawer, int which) {
        BigInteger all = BigInteger.ZERO;
        for (int k = x.bits(drawer, which) / 16; k >= 0; k--) {
            all = all.shiftLeft(16).add(BigInteger.valueOf(x.word(drawer, which, k)));
        }
        return x.sign(drawer, which) == 2 ? all.negate() : all;
    }

    /** The NUMBERS of a DRAWER that are short. */
    static String numbers(ConstantMill x, int drawer) {
        StringBuilder text = new StringBuilder();
        for (int which = 0; which < 4; which++) {
            text.append(which == 0 ? "" : " ").append(number(x, drawer, which));
        }
        return text.toString();
    }

    /** A DRAWER's SUM, i and j; or empty. */
    static String span(ConstantMill x, int drawer) {
        if (x.span(drawer, 0) == STATE) {
            return "empty";
        }
        return x.span(drawer, 0) + ": " + x.span(drawer, 1) + " to " + x.span(drawer, 2);
    }
}
