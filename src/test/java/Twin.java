import java.util.ArrayList;
import java.util.List;

/**
 * Two desks with one past: a call is made on one of them, then both are asked all there is to ask, also what
 * the tape holds, what days to come bring and what was kept. No desk gets more than 512 calls.
 */
final class Twin {
    /** A desk with a past, and such bytes on its tape. */
    interface Past {
        PeacockDesk make(int... tape);
    }

    interface Call {
        long on(PeacockDesk desk);
    }

    /** A law of 40 bytes: each byte of the tape matters when it is read. */
    static final int[] TAPE = Bench.bytes("e7+p(q<3);k9-c(d<9);h8-u(w>0);x(w=6&p=7)");
    static final int[] EMPTY = {};

    private Twin() {
    }

    /** A refused call, or one that only asks. */
    static void changesNothing(String call, Past past, long want, Call on) {
        compare(call, past.make(TAPE), past.make(TAPE), want, on);
        compare(call + " (tape empty)", past.make(EMPTY), past.make(EMPTY), want, on);
    }

    static void changesNothing(String call, Past past, int[] tape, long want, Call on) {
        compare(call, past.make(tape), past.make(tape), want, on);
    }

    /** A call that takes what is on the tape, and changes nothing else. */
    static void onlyEmpties(String call, Past past, int[] tape, long want, Call on) {
        compare(call, past.make(tape), past.make(EMPTY), want, on);
    }

    private static void compare(String call, PeacockDesk asked, PeacockDesk other, long want, Call on) {
        Bench.due(call, on.on(asked), want);
        List<Integer> is = all(asked);
        List<Integer> was = all(other);
        int first = -1;
        for (int i = 0; i < Math.max(is.size(), was.size()) && first < 0; i++) {
            if (i >= is.size() || i >= was.size() || !is.get(i).equals(was.get(i))) first = i;
        }
        Bench.due(call + ": the first thing that it changed", first, -1);
    }

    static List<Integer> all(PeacockDesk desk) {
        List<Integer> seen = new ArrayList<>();
        counts(desk, seen);
        int cases = desk.count(1);
        for (int c = 0; c <= cases; c++) {
            for (int what = 0; what <= 5; what++) seen.add(desk.caseIs(c, what));
            seen.add(desk.byWhen(c, 9));
        }
        for (int p = 0; p <= 8; p++) {
            for (int what = 0; what <= 2; what++) seen.add(desk.peacockIs(p, what));
            seen.add(desk.tried(7, 10 + p));
        }
        for (int s = 0; s <= 15; s++) seen.add(desk.ofSubject(s, s % 2));
        for (int what = 0; what <= 1; what++) {
            seen.add(desk.heard(what));
            seen.add(desk.numbers(what));
        }
        for (int many = 1; many <= 4; many++) seen.add(desk.fair(many));
        for (int what = 0; what <= 3; what++) seen.add(desk.tried(5, what));
        seen.add(desk.longest());
        seen.add(desk.allQuiet(100));
        seen.add(desk.days(3));
        states(desk, seen);
        // What the tape holds, read as a law, and what days bring by it.
        seen.add(desk.law(desk.count(6)));
        seen.add(desk.days(2));
        states(desk, seen);
        seen.add(desk.undo() ? 1 : 0);
        states(desk, seen);
        return seen;
    }

    private static void counts(PeacockDesk desk, List<Integer> seen) {
        for (int what = 0; what <= 7; what++) seen.add(desk.count(what));
    }

    private static void states(PeacockDesk desk, List<Integer> seen) {
        counts(desk, seen);
        int cases = desk.count(1);
        for (int c = 0; c < cases; c++) seen.add(desk.caseIs(c, 5));
        for (int p = 0; p <= 8; p++) {
            seen.add(desk.peacockIs(p, 0));
            seen.add(desk.peacockIs(p, 1));
        }
    }
}
