import java.util.Random;

/** Drawn calls with whatever arguments, in whatever state: none throws, each comes to an end. */
public final class NeverThrowsTest {
    private static final int[] ODD = {Integer.MIN_VALUE, Integer.MIN_VALUE + 1, -65536, -1000, -256, -2, -1, 0, 1, 2, 3, 5, 7, 8, 9, 10, 11, 12, 13,
        18, 20, 23, 24, 25, 30, 53, 54, 60, 61, 99, 100, 101, 104, 105, 120, 121, 160, 161, 240, 241, 255, 256, 260, 366, 367, 1599, 1600, 2000,
        2040, 2041, 2999, 3000, 65535, 65536, 1 << 24, 1 << 30, Integer.MAX_VALUE - 1, Integer.MAX_VALUE};
    private static final String SIGNS = "ekhxpcsvudqrtwabfgmno0123456789+-*/%()[]!&|<>=;";

    private final Random random;
    private final PeacockDesk desk = new PeacockDesk();

    private NeverThrowsTest(long number) {
        random = new Random(number);
    }

    public static void main(String[] args) {
        int runs = args.length > 0 ? Integer.parseInt(args[0]) : 200;
        for (int i = 0; i < runs; i++) {
            new NeverThrowsTest(i).go(i);
        }
        Bench.end("NeverThrowsTest");
    }

    private void go(int number) {
        String last = "none";
        try {
            for (int i = 0; i < 512; i++) {
                int call = random.nextInt(34);
                last = "call " + call + " at " + i;
                make(call);
            }
            last = "all";
        } catch (RuntimeException | StackOverflowError e) {
            last += ": " + e;
        }
        Bench.due("run " + number + ", " + last, last.equals("all"), true);
    }

    private int odd() {
        int kind = random.nextInt(8);
        return kind == 0 ? random.nextInt() : kind < 4 ? random.nextInt(26) : ODD[random.nextInt(ODD.length)];
    }

    private int few(int most) {
        return random.nextInt(5) == 0 ? odd() : random.nextInt(most);
    }

    private int four() {
        int kind = random.nextInt(4);
        int is = 0;
        for (int i = 0; i < 4; i++) {
            int b = kind == 0 ? random.nextInt(256) : kind == 1 ? random.nextInt(10) : SIGNS.charAt(random.nextInt(SIGNS.length()));
            is = is << 8 | b;
        }
        return is;
    }

    /** Feeds one of these; mostly its length. */
    private int text(String... texts) {
        String one = texts[random.nextInt(texts.length)];
        Bench.feed(desk, Bench.bytes(one));
        return random.nextInt(4) == 0 ? odd() : one.length();
    }

    private void make(int call) {
        switch (call) {
            case 0 -> desk.say(few(24), few(9));
            case 1, 2, 3 -> desk.feed(four(), four(), four(), four(), four());
            case 4 -> desk.law(few(241));
            case 5 -> desk.docket(few(161));
            case 6 -> desk.ballots(few(7), few(121), few(105));
            case 7 -> desk.days(few(101));
            case 8 -> desk.tried(few(101), few(54));
            case 9 -> desk.caseIs(few(24), few(6));
            case 10 -> desk.peacockIs(few(9), few(3));
            case 11 -> desk.byWhen(few(24), few(101));
            case 12 -> desk.allQuiet(few(101));
            case 13 -> desk.heard(few(2));
            case 14 -> desk.longest();
            case 15 -> desk.ofSubject(few(16), few(2));
            case 16 -> desk.numbers(few(2));
            case 17 -> desk.fair(few(5));
            case 18 -> desk.seats(few(9), few(61), random.nextBoolean(), few(8));
            case 19 -> desk.power(few(9), few(2041), random.nextBoolean() ? 100 : few(8));
            case 20 -> desk.quills(few(13), few(3));
            case 21 -> desk.weekday(odd(), few(13), 1600 + few(1400));
            case 22 -> desk.work(1600 + few(1400), few(367), few(367));
            case 23 -> desk.cry(few(100), few(100), few(100));
            case 24 -> desk.pickedUp(few(11), few(256));
            case 25 -> desk.tails(few(13), few(13));
            case 26 -> desk.seed(few(65536));
            case 27 -> desk.keep();
            case 28 -> desk.undo();
            case 29 -> desk.check(few(25));
            case 30 -> desk.count(odd());
            default -> rightText(call);
        }
    }

    private void rightText(int call) {
        desk.check(0);
        if (call == 31) {
            desk.docket(text("a1>0;b2>0;c3!;d4>8", "a1", "p99!>8;p99!>8;a0", "a1>3;".repeat(12) + "b5;b6", "c7;".repeat(23) + "c7"));
        } else if (call == 32) {
            desk.law(text("e1(1=1)", "e46341*46341/[p-3](1=1);h1/0(1=1)", "x(1%[w-2]=1);k99999*99999-c(d<9);e[[[[[[1]]]]]](!!!!!1=2)",
                "e" + "1+[p-3]/[q-1]*".repeat(15) + "7(1=1)"));
        } else {
            desk.ballots(few(7), text("3abc;2bca;2cba", "ab;ba", "99fedcba;abcdef"), few(105));
        }
    }
}
