import java.lang.management.ManagementFactory;

/** No call makes an object, and a new desk is small: all calls of a run live in one room. */
public final class RoomTest {
    private static final com.sun.management.ThreadMXBean THREADS =
        (com.sun.management.ThreadMXBean) ManagementFactory.getThreadMXBean();

    public static void main(String[] args) {
        PeacockDesk desk = new PeacockDesk();
        int[] law = Bench.bytes("ep+v(q<9);kv(1=1);h5(w>2);x(w=9)");
        int[] docket = Bench.bytes("a5;b10;c20>3;d7>8;e1;f2;g3");
        int[] ballots = Bench.bytes("3abc;2bca;2cba");
        int[] row = {5, 3, 2, 1, 9, 8, 7, 6, 5, 4, 3, 2, 1, 1, 1, 1, 1, 1, 1, 1};
        int[][] texts = {law, docket, ballots, row};
        for (int round = 0; round < 3; round++) {
            all(desk, texts);
        }
        long before = made();
        long idle = made() - before;
        before = made();
        all(desk, texts);
        long calls = made() - before - idle;
        // The feeding of a text makes small arrays in the test itself: five ints each.
        Bench.due("objects of all calls (" + calls + " bytes)", calls <= 40L * 40, true);
        before = made();
        PeacockDesk one = new PeacockDesk();
        long size = made() - before - idle;
        Bench.due("a new desk (" + size + " bytes)", size < 16000, true);
        Bench.due("it is there", one.count(7), 1);
        Bench.end("RoomTest");
    }

    private static long made() {
        return THREADS.getThreadAllocatedBytes(Thread.currentThread().getId());
    }

    private static void all(PeacockDesk desk, int[][] texts) {
        Bench.feed(desk, texts[0]);
        desk.law(texts[0].length);
        Bench.feed(desk, texts[1]);
        desk.docket(texts[1].length);
        Bench.feed(desk, texts[2]);
        desk.ballots(3, texts[2].length, 104);
        desk.keep();
        desk.days(3);
        desk.tried(100, 0);
        desk.byWhen(0, 100);
        desk.allQuiet(100);
        desk.caseIs(0, 3);
        desk.peacockIs(3, 0);
        desk.heard(0);
        desk.longest();
        desk.ofSubject(0, 1);
        desk.numbers(0);
        desk.numbers(1);
        desk.fair(4);
        desk.say(0, 3);
        desk.undo();
        desk.seed(1);
        desk.weekday(18, 11, 2026);
        desk.work(2026, 1, 300);
        desk.cry(99, 99, 1);
        desk.count(4);
        for (int kind = 0; kind < 6; kind++) {
            Bench.feed(desk, texts[3]);
            if (kind == 0) desk.seats(8, 60, true, 0);
            if (kind == 1) desk.seats(8, 60, false, 0);
            if (kind == 2) desk.power(8, 20, 100);
            if (kind == 3) desk.pickedUp(10, 4);
            if (kind == 4) desk.tails(12, 6);
            if (kind == 5) desk.check(24);
        }
        Bench.feed(desk, texts[3]);
        desk.quills(12, 2);
    }
}
