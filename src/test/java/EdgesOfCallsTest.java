/**
 * Each argument of each call: at its bounds, one step to either side of them, and far beyond.
 * "A call that is refused (NONE, false) changes nothing but the tape, where it is told."
 */
public final class EdgesOfCallsTest {
    private static final int NONE = PeacockDesk.NONE;
    private static final int MIN = Integer.MIN_VALUE;
    private static final int MAX = Integer.MAX_VALUE;

    /** A call with one of its arguments left open. */
    private interface Asked {
        int by(PeacockDesk desk, int argument);
    }

    public static void main(String[] args) {
        Twin.Past[] pasts = {EdgesOfCallsTest::fresh, EdgesOfCallsTest::some, EdgesOfCallsTest::full, EdgesOfCallsTest::over};
        int[] cases = {0, 6, 24, 24};
        for (int i = 0; i < pasts.length; i++) {
            refusedWithoutTape(pasts[i], cases[i]);
            refusedSaying(pasts[i], cases[i]);
            refusedTexts(pasts[i]);
            refusedRows(pasts[i]);
            tapeTooShort(pasts[i]);
            onlyAsked(pasts[i]);
            onlyTaken(pasts[i]);
        }
        refusedUndo();
        fullPeacocks();
        textLengths();
        rowLengths();
        otherArguments();
        tapeRoom();
        Bench.end("EdgesOfCallsTest");
    }

    private static void due(String call, long got, long want) {
        Bench.due(call, got, want);
    }

    private static long truth(boolean is) {
        return is ? 1 : 0;
    }

    // ---- pasts

    private static PeacockDesk fresh(int... tape) {
        PeacockDesk desk = new PeacockDesk();
        Bench.feed(desk, tape);
        return desk;
    }

    private static PeacockDesk some(int... tape) {
        PeacockDesk desk = new PeacockDesk();
        Bench.docket(desk, "a10;b20!>2;c5>3;d7>8;a99!>8;p1");
        Bench.law(desk, "e3(p=1&q<2);k9-d(1=1);h5+u(w<9);x(w=4&p>5)");
        desk.days(2);
        desk.keep();
        desk.seed(777);
        desk.say(0, 2);
        desk.days(3);
        Bench.feed(desk, tape);
        return desk;
    }

    /** Peacock 0 and the hen have twelve each. */
    private static PeacockDesk full(int... tape) {
        PeacockDesk desk = new PeacockDesk();
        Bench.docket(desk, times("b12>0", 12) + ";" + times("c3!>8", 12));
        Bench.law(desk, "h0(1=1);e1(1=1)");
        desk.days(2);
        desk.keep();
        desk.days(1);
        Bench.feed(desk, tape);
        return desk;
    }

    /** Peacock 4 has 24. */
    private static PeacockDesk over(int... tape) {
        PeacockDesk desk = new PeacockDesk();
        Bench.docket(desk, times("a1>4", 12));
        desk.keep();
        Bench.docket(desk, times("a1>1", 12) + ";" + times("a2>4", 12));
        desk.undo();
        Bench.feed(desk, tape);
        return desk;
    }

    private static String times(String line, int many) {
        return (line + ";").repeat(many).substring(0, (line.length() + 1) * many - 1);
    }

    // ---- refused calls change nothing

    private static void refusedSaying(Twin.Past past, int cases) {
        int[][] wrong = {{-1, 1}, {cases, 1}, {24, 1}, {MIN, 1}, {MAX, 1}, {0, -1}, {0, 9}, {0, MIN}, {0, MAX}, {-1, 9}, {cases - 1, 9},
            {cases - 1, -1}};
        for (int[] w : wrong) {
            Twin.changesNothing("say(" + w[0] + ", " + w[1] + ")", past, 0, desk -> truth(desk.say(w[0], w[1])));
        }
        for (int x : new int[] {-1, 65536, MIN, MAX}) {
            Twin.changesNothing("seed(" + x + ")", past, 0, desk -> truth(desk.seed(x)));
        }
    }

    private static void refusedWithoutTape(Twin.Past past, int cases) {
        none(past, "days", (d, a) -> d.days(a), 0, 101, -1, MIN, MAX);
        none(past, "tried n", (d, a) -> d.tried(a, 0), 0, 101, -1, MIN, MAX);
        none(past, "tried what", (d, a) -> d.tried(3, a), -1, 4, 9, 19, 29, 30 + cases, 54, 100, MIN, MAX);
        none(past, "caseIs c", (d, a) -> d.caseIs(a, 0), -1, cases, 24, MIN, MAX);
        none(past, "caseIs what", (d, a) -> d.caseIs(0, a), -1, 6, MIN, MAX);
        none(past, "peacockIs p", (d, a) -> d.peacockIs(a, 0), -1, 9, MIN, MAX);
        none(past, "peacockIs what", (d, a) -> d.peacockIs(0, a), -1, 3, MIN, MAX);
        none(past, "byWhen c", (d, a) -> d.byWhen(a, 5), -1, cases, 24, MIN, MAX);
        none(past, "byWhen n", (d, a) -> d.byWhen(0, a), 0, 101, -1, MIN, MAX);
        none(past, "allQuiet", (d, a) -> d.allQuiet(a), 0, 101, -1, MIN, MAX);
        none(past, "heard", (d, a) -> d.heard(a), -1, 2, MIN, MAX);
        none(past, "ofSubject s", (d, a) -> d.ofSubject(a, 0), -1, 16, MIN, MAX);
        none(past, "ofSubject what", (d, a) -> d.ofSubject(0, a), -1, 2, MIN, MAX);
        none(past, "numbers", (d, a) -> d.numbers(a), -1, 2, MIN, MAX);
        none(past, "fair", (d, a) -> d.fair(a), 0, 5, -1, MIN, MAX);
        none(past, "weekday month", (d, a) -> d.weekday(1, a, 2000), 0, 13, -1, MIN, MAX);
        none(past, "weekday year", (d, a) -> d.weekday(1, 1, a), 1599, 3000, 0, MIN, MAX);
        none(past, "work year", (d, a) -> d.work(a, 1, 2), 1599, 3000, 0, MIN, MAX);
        none(past, "work from", (d, a) -> d.work(2000, a, 366), 0, 367, -1, MIN, MAX);
        none(past, "work to", (d, a) -> d.work(2000, 5, a), 4, 367, 0, MIN, MAX);
        none(past, "cry across", (d, a) -> d.cry(a, 1, 1), -1, 100, MIN, MAX);
        none(past, "cry along", (d, a) -> d.cry(1, a, 1), -1, 100, MIN, MAX);
        none(past, "cry fast", (d, a) -> d.cry(1, 1, a), 0, 100, -1, MIN, MAX);
        none(past, "count", (d, a) -> d.count(a), -1, 8, MIN, MAX);
    }

    private static void none(Twin.Past past, String call, Asked asked, int... arguments) {
        for (int a : arguments) {
            Twin.changesNothing(call + " " + a, past, NONE, desk -> asked.by(desk, a));
        }
    }

    private static void refusedTexts(Twin.Past past) {
        none(past, "law", (d, a) -> d.law(a), 0, 241, -1, 41, 240, MIN, MAX);
        none(past, "docket", (d, a) -> d.docket(a), 0, 161, -1, 41, 160, MIN, MAX);
        none(past, "ballots n", (d, a) -> d.ballots(3, a, 100), 0, 121, -1, 41, 120, MIN, MAX);
        none(past, "ballots ministers", (d, a) -> d.ballots(a, 5, 100), 1, 7, 0, -1, MIN, MAX);
        none(past, "ballots what of two", (d, a) -> d.ballots(2, 5, a), -1, 2, 99, 105, MIN, MAX);
        none(past, "ballots what of six", (d, a) -> d.ballots(6, 5, a), -1, 6, 99, 105, MIN, MAX);
    }

    private static void refusedRows(Twin.Past past) {
        none(past, "seats n", (d, a) -> d.seats(a, 5, true, 0), 1, 9, 0, -1, MIN, MAX);
        none(past, "seats many", (d, a) -> d.seats(3, a, false, 0), 0, 61, -1, MIN, MAX);
        none(past, "seats what", (d, a) -> d.seats(3, 5, true, a), -1, 3, MIN, MAX);
        none(past, "power n", (d, a) -> d.power(a, 5, 100), 1, 9, 0, -1, MIN, MAX);
        none(past, "power quota", (d, a) -> d.power(3, a, 100), 0, 2041, -1, MIN, MAX);
        none(past, "power what", (d, a) -> d.power(3, 5, a), -1, 3, 99, 101, MIN, MAX);
        none(past, "power what of eight", (d, a) -> d.power(8, 5, a), -1, 8, 99, 101, MIN, MAX);
        none(past, "quills n", (d, a) -> d.quills(a, 0), 1, 13, 0, -1, MIN, MAX);
        none(past, "quills what", (d, a) -> d.quills(4, a), -1, 3, MIN, MAX);
        none(past, "pickedUp n", (d, a) -> d.pickedUp(a, 5), 0, 11, -1, MIN, MAX, 1 << 30, 1 << 31 | 1, (1 << 30) + 2);
        none(past, "pickedUp from", (d, a) -> d.pickedUp(2, a), -1, 256, MIN, MAX);
        none(past, "tails n", (d, a) -> d.tails(a, 1), 1, 13, 0, -1, MIN, MAX);
        none(past, "tails many", (d, a) -> d.tails(4, a), 0, 5, -1, MIN, MAX);
        for (int n : new int[] {-1, 25, MIN, MAX}) {
            Twin.changesNothing("check(" + n + ")", past, -2, desk -> desk.check(n));
        }
    }

    /** "it has not so many (the tape stays)": a tape of none, and one of 20 bytes with one byte too few. */
    private static void tapeTooShort(Twin.Past past) {
        int[] none = {};
        Twin.changesNothing("law(1) of none", past, none, NONE, d -> d.law(1));
        Twin.changesNothing("docket(1) of none", past, none, NONE, d -> d.docket(1));
        Twin.changesNothing("ballots(2, 1, 100) of none", past, none, NONE, d -> d.ballots(2, 1, 100));
        Twin.changesNothing("seats(2, ..) of none", past, none, NONE, d -> d.seats(2, 5, true, 0));
        Twin.changesNothing("power(2, ..) of none", past, none, NONE, d -> d.power(2, 5, 0));
        Twin.changesNothing("quills(2, 0) of none", past, none, NONE, d -> d.quills(2, 0));
        Twin.changesNothing("pickedUp(1, 0) of none", past, none, NONE, d -> d.pickedUp(1, 0));
        Twin.changesNothing("tails(2, 1) of none", past, none, NONE, d -> d.tails(2, 1));
        Twin.changesNothing("check(1) of none", past, none, -2, d -> d.check(1));
        int[] twenty = Bench.bytes("e7+p(q<3);k9-c(1=1);");
        Twin.changesNothing("law(21) of 20", past, twenty, NONE, d -> d.law(21));
        Twin.changesNothing("docket(21) of 20", past, twenty, NONE, d -> d.docket(21));
        Twin.changesNothing("ballots(2, 21, 100) of 20", past, twenty, NONE, d -> d.ballots(2, 21, 100));
        Twin.changesNothing("check(21) of 20", past, twenty, -2, d -> d.check(21));
        Twin.changesNothing("check(24) of 20", past, twenty, -2, d -> d.check(24));
    }

    /** "nothing is changed": calls that ask, with arguments that are right. */
    private static void onlyAsked(Twin.Past past) {
        PeacockDesk seen = past.make(Twin.TAPE);
        Twin.changesNothing("tried", past, seen.tried(100, 0), d -> d.tried(100, 0));
        Twin.changesNothing("tried cries", past, seen.tried(1, 1), d -> d.tried(1, 1));
        Twin.changesNothing("byWhen", past, seen.byWhen(0, 100), d -> d.byWhen(0, 100));
        Twin.changesNothing("allQuiet", past, seen.allQuiet(100), d -> d.allQuiet(100));
        Twin.changesNothing("fair", past, seen.fair(4), d -> d.fair(4));
        Twin.changesNothing("longest", past, seen.longest(), d -> d.longest());
        Twin.changesNothing("numbers", past, seen.numbers(0), d -> d.numbers(0));
        Twin.changesNothing("weekday", past, 2, d -> d.weekday(18, 11, 2026));
        Twin.changesNothing("weekday, no such day", past, -2, d -> d.weekday(31, 11, 2026));
        Twin.changesNothing("work", past, 260, d -> d.work(2026, 1, 365));
        Twin.changesNothing("cry", past, 10, d -> d.cry(3, 4, 1));
        Twin.changesNothing("days(0)", past, NONE, d -> d.days(0));
        Twin.changesNothing("a full tape", past, new int[260], NONE, d -> d.feed(1, 2, 3, 4, 5));
    }

    /** "empty then": the tape is all that they change; a FAULT of a docket, a law: all, the one before, stays. */
    private static void onlyTaken(Twin.Past past) {
        taken(past, "law fault", "e5(p=0);k3(q=1);x(1=1", -1021, (d, n) -> d.law(n));
        taken(past, "law fault 2", "e5(p=0);k123456(1=1)", -2014, (d, n) -> d.law(n));
        taken(past, "law fault 4", times("x(1=1)", 17), -4112, (d, n) -> d.law(n));
        taken(past, "law fault 5", "x(((((((", -5007, (d, n) -> d.law(n));
        taken(past, "docket fault", "a1>0;b2!;c3>8;", -1014, (d, n) -> d.docket(n));
        taken(past, "docket fault 2", "p99!>8;o98>7;n970", -2016, (d, n) -> d.docket(n));
        taken(past, "docket fault 4", times("p9", 25), -4072, (d, n) -> d.docket(n));
        taken(past, "docket fault 6", times("p9>4", 13), -6063, (d, n) -> d.docket(n));
        taken(past, "ballots", "3abc;2bca;2cba", 1, (d, n) -> d.ballots(3, n, 104));
        taken(past, "ballots fault", "3abc;2bca;2cb", -1013, (d, n) -> d.ballots(3, n, 104));
        taken(past, "ballots fault 3", "3abc;00bca", -3005, (d, n) -> d.ballots(3, n, 104));
        row(past, "seats", new int[] {5, 3, 1}, 6, (d, n) -> d.seats(n, 10, true, 0));
        row(past, "seats, no votes", new int[] {0, 0}, -2, (d, n) -> d.seats(n, 10, false, 0));
        row(past, "power", new int[] {3, 2, 2}, 2, (d, n) -> d.power(n, 4, 0));
        row(past, "quills", new int[] {1, 9}, 1, (d, n) -> d.quills(n, 0));
        row(past, "quills, a byte above 9", new int[] {1, 10}, -3, (d, n) -> d.quills(n, 0));
        row(past, "pickedUp", new int[] {5, 5, 10, 8}, 2, (d, n) -> d.pickedUp(n / 2, 7));
        row(past, "tails", new int[] {2, 3, 5}, 6, (d, n) -> d.tails(n, 2));
        row(past, "tails, none", new int[] {251, 241, 239}, -2, (d, n) -> d.tails(n, 3));
        row(past, "tails, every 0", new int[] {1, 0}, -3, (d, n) -> d.tails(n, 1));
        row(past, "check of none", new int[] {200}, NONE, (d, n) -> d.check(0));
        row(past, "check, not so", new int[] {200}, 0, (d, n) -> d.check(n));
    }

    private static void taken(Twin.Past past, String call, String text, int want, Asked asked) {
        Twin.onlyEmpties(call, past, Bench.bytes(text), want, desk -> asked.by(desk, text.length()));
    }

    private static void row(Twin.Past past, String call, int[] bytes, int want, Asked asked) {
        Twin.onlyEmpties(call, past, bytes, want, desk -> asked.by(desk, bytes.length));
    }

    /** "false: none was KEPT", also when all else has been done. */
    private static void refusedUndo() {
        Twin.Past busy = tape -> {
            PeacockDesk desk = new PeacockDesk();
            Bench.docket(desk, "a1>0;b2");
            desk.days(4);
            Bench.feed(desk, tape);
            return desk;
        };
        Twin.changesNothing("undo, none was kept", busy, 0, desk -> truth(desk.undo()));
        Twin.changesNothing("undo of a new one", EdgesOfCallsTest::fresh, 0, desk -> truth(desk.undo()));
    }

    /** "into a PEACOCK with an eye left": eleven, twelve, and more than twelve behind undo. */
    private static void fullPeacocks() {
        for (int p = 0; p <= 8; p++) {
            int peacock = p;
            int other = p == 3 ? 5 : 3;
            Twin.Past eleven = tape -> ofPeacock(peacock, 11, tape);
            Twin.Past twelve = tape -> ofPeacock(peacock, 12, tape);
            due("say: eleven, one more into " + p, truth(eleven.make().say(11, p)), 1);
            due("say: eleven, one of its own into " + p, truth(eleven.make().say(10, p)), 1);
            Twin.changesNothing("say: twelve, no eye left in " + p, twelve, 0, desk -> truth(desk.say(12, peacock)));
            Twin.changesNothing("say: twelve, one of its own into " + p, twelve, 0, desk -> truth(desk.say(0, peacock)));
            PeacockDesk desk = twelve.make();
            due("say: one is gone", truth(desk.say(0, other)), 1);
            due("say: an eye is left", truth(desk.say(12, p)), 1);
            due("say: no eye is left", truth(desk.say(0, p)), 0);
            due("say: twelve again", desk.peacockIs(p, 0), 0x1ffe);
        }
        PeacockDesk over = over();
        Twin.changesNothing("say: 24 of its own", EdgesOfCallsTest::over, 0, desk -> truth(desk.say(0, 4)));
        for (int c = 0; c < 12; c++) {
            due("say: away from 24", truth(over.say(c, 0)), 1);
            due("say: back to " + (23 - c), truth(over.say(c, 4)), 0);
        }
        due("say: twelve are left", over.peacockIs(4, 0), 0xfff000);
        due("say: one more away", truth(over.say(12, 1)), 1);
        due("say: now there is an eye", truth(over.say(12, 4)), 1);
    }

    private static PeacockDesk ofPeacock(int p, int many, int... tape) {
        PeacockDesk desk = new PeacockDesk();
        Bench.docket(desk, times("a1>" + p, many) + ";b2;c3");
        desk.keep();
        Bench.feed(desk, tape);
        return desk;
    }

    // ---- lengths that are right

    /** Texts that are right, of the most bytes a call takes, one less and one more. */
    private static void textLengths() {
        for (int n = 239; n <= 240; n++) {
            PeacockDesk desk = new PeacockDesk();
            Bench.feed(desk, Bench.bytes(lawOf(n)));
            due("law of " + n + " bytes", desk.law(n), 1);
            due("law of " + n + " bytes: empty then", desk.count(6), 0);
        }
        PeacockDesk law = new PeacockDesk();
        Bench.feed(law, Bench.bytes(lawOf(241)));
        due("law of 241 bytes", law.law(241), NONE);
        due("law of 241 bytes: the tape stays", law.count(6), 260);
        due("law of 241 bytes: its first 240 have no end", law.law(240), -1240);
        for (int n = 159; n <= 160; n++) {
            PeacockDesk desk = new PeacockDesk();
            Bench.feed(desk, Bench.bytes(docketOf(n)));
            due("docket of " + n + " bytes", desk.docket(n), 24);
            due("docket of " + n + " bytes: empty then", desk.count(6), 0);
        }
        PeacockDesk docket = new PeacockDesk();
        Bench.feed(docket, Bench.bytes(docketOf(161)));
        due("docket of 161 bytes", docket.docket(161), NONE);
        due("docket of 161 bytes: the tape stays", docket.count(6), 180);
        due("docket of 161 bytes: no end", docket.docket(160), -1160);
        // The longest ballots that are right have 107 bytes.
        PeacockDesk ballots = new PeacockDesk();
        String most = times("99abcdef", 12);
        due("ballots of 107 bytes", Bench.ballots(ballots, 6, most, 100), 1188);
        Bench.feed(ballots, Bench.bytes(most + ";" + most));
        due("ballots of 121 bytes", ballots.ballots(6, 121, 100), NONE);
        due("ballots of 121 bytes: the tape stays", ballots.count(6), 220);
        due("ballots of 120 bytes", ballots.ballots(6, 120, 100), -4108);
        due("ballots of 120 bytes: empty then", ballots.count(6), 0);
        Bench.feed(ballots, Bench.bytes("ab;ba"));
        due("ballots of one byte", ballots.ballots(2, 1, 100), -1001);
        Bench.feed(ballots, Bench.bytes("a1"));
        due("docket of one byte", ballots.docket(1), -1001);
        Bench.feed(ballots, Bench.bytes("x(1=1)"));
        due("law of one byte", ballots.law(1), -1001);
    }

    private static String lawOf(int bytes) {
        StringBuilder text = new StringBuilder("x(p=");
        while (text.length() < bytes - 9) text.append("1234+");
        text.append("1+".repeat((bytes - text.length() - 2) / 2));
        return text.append((bytes - text.length()) % 2 == 0 ? "7)" : "77)").toString();
    }

    private static String docketOf(int bytes) {
        // 24 lines of five bytes make 143 with the signs between; a sixth byte each till it is enough.
        StringBuilder text = new StringBuilder();
        for (int i = 0; i < 24; i++) {
            text.append(i == 0 ? "" : ";").append(i < bytes - 143 ? "p99!>" : "a9!>").append(i % 9);
        }
        due("docketOf " + bytes, text.length(), bytes);
        return text.toString();
    }

    /** Rows of bytes: the fewest and the most that a call takes, with a tape that has just so many. */
    private static void rowLengths() {
        range("seats n", 2, 8, (d, n) -> d.seats(n, 5, true, 0));
        range("seats n by rests", 2, 8, (d, n) -> d.seats(n, 5, false, 0));
        range("seats many", 1, 60, (d, n) -> d.seats(3, n, true, 0));
        range("seats many by rests", 1, 60, (d, n) -> d.seats(3, n, false, 0));
        range("seats what", 0, 4, (d, n) -> d.seats(5, 5, true, n));
        range("power n", 2, 8, (d, n) -> d.power(n, 5, 0));
        range("power quota", 1, 2040, (d, n) -> d.power(3, n, 0));
        range("power what", 0, 4, (d, n) -> d.power(5, 5, n));
        range("power who", 100, 100, (d, n) -> d.power(5, 5, n));
        range("quills n", 2, 12, (d, n) -> d.quills(n, 0));
        range("quills what", 0, 2, (d, n) -> d.quills(7, n));
        range("pickedUp n", 1, 10, (d, n) -> d.pickedUp(n, 5));
        range("pickedUp from", 0, 255, (d, n) -> d.pickedUp(5, n));
        range("tails n", 2, 12, (d, n) -> d.tails(n, 1));
        range("tails many", 1, 6, (d, n) -> d.tails(6, n));
        range("ballots ministers", 2, 6, (d, n) -> d.ballots(n, 1, 100));
        range("ballots what", 0, 3, (d, n) -> d.ballots(4, 1, n));
        range("ballots what above", 100, 104, (d, n) -> d.ballots(4, 1, n));
        // Twenty bytes are just enough for ten feathers, for a law and a check of twenty.
        PeacockDesk desk = new PeacockDesk();
        desk.feed(0, 0, 0, 0, 0);
        due("pickedUp: twenty bytes", desk.pickedUp(10, 0), 10);
        Bench.feed(desk, Bench.bytes("e7+p(q<3);k9-c(1=1);"));
        due("law: twenty bytes", desk.law(20), -1020);
        desk.feed(-1, -1, -1, -1, -1);
        due("check: twenty bytes", desk.check(20), NONE);
        Bench.feed(desk, new int[24]);
        due("check: 24 of 40", desk.check(24), 0);
    }

    /** With a row of ones on the tape: refused one step outside, not refused at the bounds and one step within. */
    private static void range(String call, int least, int most, Asked asked) {
        for (int a : new int[] {least - 1, most + 1}) {
            PeacockDesk desk = ones();
            due(call + " " + a, asked.by(desk, a), NONE);
            due(call + " " + a + ": the tape stays", desk.count(6), 20);
        }
        for (int a : new int[] {least, Math.min(most, least + 1), Math.max(least, most - 1), most}) {
            PeacockDesk desk = ones();
            due(call + " " + a + ": not refused", truth(asked.by(desk, a) != NONE), 1);
            due(call + " " + a + ": empty then", desk.count(6), 0);
        }
    }

    private static PeacockDesk ones() {
        PeacockDesk desk = new PeacockDesk();
        desk.feed(0x01010101, 0x01010101, 0x01010101, 0x01010101, 0x01010101);
        return desk;
    }

    // ---- the other arguments, where they are right

    private static void otherArguments() {
        PeacockDesk desk = full();
        within("say c", 0, 23, a -> truth(desk.say(a, 3)) - 1);
        PeacockDesk five = new PeacockDesk();
        Bench.docket(five, "a1;b1;c1;d1;e1");
        within("say c of five", 0, 4, a -> truth(five.say(a, 3)) - 1);
        within("say p", 0, 8, a -> truth(five.say(2, a)) - 1);
        within("caseIs c of five", 0, 4, a -> five.caseIs(a, 0));
        within("byWhen c of five", 0, 4, a -> five.byWhen(a, 1));
        within("tried DAYS of five", 30, 34, a -> five.tried(1, a));
        PeacockDesk all = full();
        within("caseIs c", 0, 23, a -> all.caseIs(a, 0));
        within("caseIs what", 0, 5, a -> all.caseIs(0, a));
        within("peacockIs p", 0, 8, a -> all.peacockIs(a, 0));
        within("peacockIs what", 0, 2, a -> all.peacockIs(0, a));
        within("byWhen c", 0, 23, a -> all.byWhen(a, 1));
        within("byWhen n", 1, 100, a -> all.byWhen(0, a));
        within("allQuiet n", 1, 100, a -> all.allQuiet(a));
        within("tried n", 1, 100, a -> all.tried(a, 0));
        within("tried what", 0, 3, a -> all.tried(1, a));
        within("tried peacocks", 10, 18, a -> all.tried(1, a));
        within("tried DAYS", 30, 53, a -> all.tried(1, a));
        within("days n", 1, 100, a -> full().days(a));
        within("heard what", 0, 1, a -> all.heard(a));
        within("ofSubject s", 0, 15, a -> all.ofSubject(a, 0));
        within("ofSubject what", 0, 1, a -> all.ofSubject(1, a));
        within("numbers what", 0, 1, a -> all.numbers(a));
        within("fair many", 1, 4, a -> all.fair(a));
        within("weekday month", 1, 12, a -> all.weekday(1, a, 2000));
        within("weekday year", 1600, 2999, a -> all.weekday(1, 1, a));
        within("work year", 1600, 2999, a -> all.work(a, 1, 2));
        within("work from", 1, 366, a -> all.work(2000, a, 366));
        within("work to", 7, 366, a -> all.work(2000, 7, a));
        within("work to, no leap year", 7, 365, a -> all.work(2001, 7, a));
        within("cry across", 0, 99, a -> all.cry(a, 5, 3));
        within("cry along", 0, 99, a -> all.cry(5, a, 3));
        within("cry fast", 1, 99, a -> all.cry(5, 5, a));
        within("seed x", 0, 65535, a -> truth(all.seed(a)) - 1);
        within("count what", 0, 7, a -> all.count(a));
    }

    private interface Number {
        long of(int argument);
    }

    /** Refused (NONE) one step outside of the bounds and far beyond, not at them and one step within. */
    private static void within(String call, int least, int most, Number number) {
        for (int a : new int[] {least - 1, most + 1, MIN, MAX}) {
            due(call + " " + a, number.of(a), NONE);
        }
        for (int a : new int[] {least, Math.min(most, least + 1), Math.max(least, most - 1), most}) {
            due(call + " " + a + ": not refused", truth(number.of(a) != NONE), 1);
        }
    }

    /** "NONE if that would be more than 260": 240 and 20 are not more. */
    private static void tapeRoom() {
        PeacockDesk desk = new PeacockDesk();
        for (int i = 1; i <= 12; i++) {
            due("feed " + i, desk.feed(i, i, i, i, i), 20 * i);
        }
        due("feed: 260", desk.feed(9, 9, 9, 9, 9), 260);
        due("feed: 280", desk.feed(8, 8, 8, 8, 8), NONE);
        due("feed: still 260", desk.count(6), 260);
        due("feed: once more", desk.feed(8, 8, 8, 8, 8), NONE);
        due("feed: the first ones are there", desk.check(8), 0);
        due("feed: all are gone", desk.count(6), 0);
        due("feed: from the beginning", desk.feed(MIN, -1, MAX, 0, 1), 20);
        // 128 0 0 0 | 255 255 255 255 | 127 255 255 255 | 0 0 0 0 | 0 0 0 1
        due("feed: bytes", desk.power(8, 1148, 100), 0);
        desk.feed(MIN, -1, MAX, 0, 1);
        due("feed: 128 and 4 times 255: one of five comes last", desk.power(8, 1148, 0), 40320 / 5);
        desk.feed(MIN, -1, MAX, 0, 1);
        due("feed: no more than that", desk.power(8, 1149, 0), 0);
    }
}
