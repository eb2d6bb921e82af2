import java.util.ArrayList;
import java.util.List;
import java.util.Set;
import java.util.TreeSet;

/**
 * An object with something in each of its places, and all that it can be asked: so that a call can
 * be held to changing nothing but what is told. What a call may change is named by its owner: "sum
 * 0" .. "sum 5", "drawer 0" .. "drawer 7", "constant 0" .. "constant 3", "result".
 *
 * <p>SUMS 0 to 3 go on for ever, each just within its BOUND, sum 4 falls at 4, sum 5 is as it was at
 * first. DRAWERS 0 and 1 lie one behind the other, 4 has no TERM, 6 and 7 are empty. CONSTANT 0 is
 * full, 2 falls with 5 TERMS, 3 has no parts.
 */
final class Furnished {
    interface Call {
        long on(ConstantMill x);
    }

    private record Answer(String owner, String call, long told) {
    }

    private static final List<Answer> EXPECTED = state(make());

    private Furnished() {
    }

    static ConstantMill make() {
        ConstantMill x = new ConstantMill();
        Edges.rules(x, 0, -1, 3, 5, 7);
        x.bound(0, 1, 3);
        Edges.rules(x, 1, 2, -5, 1, 3);
        x.bound(1, 2, 5);
        Edges.eulers(x, 1, 2);
        Edges.rules(x, 3, -1, 9, 1, 3);
        x.rule(3, 3, 3, 6, 0);
        x.bound(3, 1, 9);
        Edges.rules(x, 4, 1, 9, 1, 4);
        x.rule(4, 3, 4, -1, 0);
        x.bound(4, 2, 9);
        x.grind(0, 0, 0, 10);
        x.grind(1, 0, 10, 15);
        x.grind(2, 1, 3, 20);
        x.grind(3, 3, 0, 100);
        x.grind(4, 0, 7, 7);
        x.grind(5, 4, 0, 4);
        x.part(0, 0, 1, 1);
        x.part(0, 1, -2, 3);
        x.part(0, 2, 3, 5);
        x.part(0, 3, 16, 1);
        x.part(1, 0, 1, 7);
        x.part(2, 4, 1, 1);
        x.figures(0, 10, 30, 20);
        return x;
    }

    /** All that can be asked. It takes constant 3 for what each BOUND does, so it comes at the end. */
    private static List<Answer> state(ConstantMill x) {
        List<Answer> all = new ArrayList<>();
        for (int c = 0; c < 4; c++) {
            for (int part = 0; part < 4; part++) {
                for (int what = 0; what < 3; what++) {
                    put(all, "constant " + c, "told " + part + " " + what, x.told(c, part, what));
                }
            }
            put(all, "constant " + c, "told 4", x.told(c, 4, 0));
        }
        for (int d = 0; d < 8; d++) {
            for (int what = 0; what < 3; what++) {
                put(all, "drawer " + d, "span " + what, x.span(d, what));
            }
            for (int which = 0; which < 4; which++) {
                put(all, "drawer " + d, "bits " + which, x.bits(d, which));
                put(all, "drawer " + d, "sign " + which, x.sign(d, which));
                put(all, "drawer " + d, "rest " + which, x.rest(d, which, 999983));
            }
        }
        result(x, all);
        sums(x, all);
        return all;
    }

    private static void result(ConstantMill x, List<Answer> all) {
        put(all, "result", "signOf", x.signOf());
        put(all, "result", "whole", x.whole());
        for (int what = 0; what < 5; what++) {
            put(all, "result", "about " + what, x.about(what));
        }
        for (int i = 1; i <= 31; i++) {
            put(all, "result", "figure " + i, x.figure(i));
        }
    }

    private static void sums(ConstantMill x, List<Answer> all) {
        for (int s = 0; s < 6; s++) {
            for (int which = 0; which < 4; which++) {
                for (int k : new int[] {1, 2, 99}) {
                    put(all, "sum " + s, "at " + which + " " + k, x.at(s, which, k));
                }
            }
            put(all, "sum " + s, "falls", x.falls(s, 100));
            x.clear(3);
            x.part(3, s, 1, 1);
            for (int n = 1; n <= 12; n++) {
                put(all, "sum " + s, "need of " + n, x.need(3, 2, n));
            }
        }
    }

    private static void put(List<Answer> all, String owner, String call, long told) {
        all.add(new Answer(owner, call, told));
    }

    /** A call that is answered so, changes something of each of these owners, and nothing else. */
    static void changes(String what, long want, Call call, String... owners) {
        ConstantMill x = make();
        Edges.due(what, call.on(x), want);
        List<Answer> now = state(x);
        Set<String> changed = new TreeSet<>();
        for (int i = 0; i < now.size(); i++) {
            if (now.get(i).told() != EXPECTED.get(i).told()) {
                changed.add(now.get(i).owner());
            }
        }
        Edges.due(what + ": changed is", changed.toString(), new TreeSet<>(List.of(owners)).toString());
    }

    /** A call that is answered so and changes nothing. */
    static void keeps(String what, long want, Call call) {
        changes(what, want, call);
    }
}
