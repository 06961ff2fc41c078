import java.time.LocalDate;

/** Votes, seats, power, quills, the calendar, a cry, feathers, tails, fair shares: ties, bounds, rounding. */
public final class EdgesOfSumsTest {
    private static final int NONE = PeacockDesk.NONE;

    public static void main(String[] args) {
        firstPlaces();
        points();
        twos();
        rounds();
        fairOfTen();
        seatsByRests();
        seatsByHighest();
        seatsAddUp();
        powerAtQuota();
        quillsByHand();
        quillsOfTwo();
        quillsOfMany();
        allDays();
        noSuchDays();
        daysOfWork();
        allCries();
        feathers();
        tails();
        Bench.end("EdgesOfSumsTest");
    }

    private static void due(String call, long got, long want) {
        Bench.due(call, got, want);
    }

    private static String times(String line, int many) {
        return (line + ";").repeat(many).substring(0, (line.length() + 1) * many - 1);
    }

    private static int vote(int ministers, String text, int what) {
        return Bench.ballots(new PeacockDesk(), ministers, text, what);
    }

    // ---- CABINET

    /** "by first places (of like ones the lowest)" */
    private static void firstPlaces() {
        due("first: like ones", vote(2, "ba;ab", 101), 0);
        due("first: one more", vote(2, "2ba;ab", 101), 1);
        due("first: one less", vote(2, "ba;2ab", 101), 0);
        due("first: like ones, not the first", vote(3, "2cab;2bac;abc", 101), 1);
        due("first: the last by one", vote(3, "3cab;2bac;2abc", 101), 2);
        due("first: a minister without any", vote(6, "fabcde", 101), 5);
        due("first: as often as told", vote(3, "99cab;50abc;49abc", 101), 0);
        due("first: as often as told, one more", vote(3, "99cab;50abc;48abc", 101), 2);
    }

    /** "by points (of n ministers n - 1 for the first place, and so on to 0; of like ones the lowest)" */
    private static void points() {
        for (int m = 2; m <= 6; m++) {
            String line = "abcdef".substring(0, m);
            for (int i = 0; i < m; i++) {
                due("points of " + i + " among " + m, vote(m, line, i), m - 1 - i);
                due("points of " + i + " among " + m + ", seven times", vote(m, "7" + line, i), 7 * (m - 1 - i));
            }
            due("points: none beyond " + m, vote(m, line, m), NONE);
        }
        due("points: most there are", vote(6, times("99fedcba", 12), 5), 5940);
        due("points: none", vote(6, times("99fedcba", 12), 0), 0);
        due("points: all like", vote(3, "abc;bca;cab", 102), 0);
        due("points: like ones", vote(3, "cba;bca", 102), 1);
        due("points: one more", vote(3, "cba;bca;cba", 102), 2);
        due("points: not by first places", vote(3, "3abc;2bca;2cba", 102), 1);
    }

    /** "by twos (who is ahead of each other one on more than half of all ballots; none: -2)" */
    private static void twos() {
        due("twos: half of two", vote(2, "ab;ba", 103), -2);
        due("twos: two of three", vote(2, "2ab;ba", 103), 0);
        due("twos: one of three", vote(2, "ab;2ba", 103), 1);
        due("twos: half of 198", vote(2, "99ab;99ba", 103), -2);
        due("twos: 100 of 199", vote(2, "99ab;99ba;ab", 103), 0);
        due("twos: a ring", vote(3, "abc;bca;cab", 103), -2);
        due("twos: a ring with one more", vote(3, "2abc;bca;cab", 103), -2);
        due("twos: ahead of one, half with the other", vote(3, "2abc;cab;cba", 103), -2);
        due("twos: the last one", vote(3, "3cab;2abc", 103), 2);
        due("twos: of six", vote(6, "fabcde;fedcba;afbcde", 103), 5);
        due("twos: one ballot", vote(6, "dabcef", 103), 3);
    }

    /** "by rounds (.. of like ones the one of the highest letter, till one is left)" */
    private static void rounds() {
        due("rounds: like ones of two", vote(2, "ab;ba", 104), 0);
        due("rounds: one more", vote(2, "ab;2ba", 104), 1);
        due("rounds: three like ones", vote(3, "abc;bca;cab", 104), 0);
        // c and b have one each: c is out, and its one goes to b: 2 to 2, b is out.
        due("rounds: like ones again", vote(3, "2abc;bca;cba", 104), 0);
        due("rounds: by one more", vote(3, "2abc;2bca;cba", 104), 1);
        // a and b none: b is out first, then a; d and c two each: d is out.
        due("rounds: without any", vote(4, "2cdab;2dcab", 104), 2);
        // c is out, and its one goes to d; of b and d with three each d is out, and all three go to b.
        due("rounds: to the end", vote(4, "4abcd;3bdca;2dcba;cdba", 104), 1);
        due("rounds: one ballot", vote(6, "fabcde", 104), 5);
        due("rounds: one of 24", vote(6, "12fabcde;12abcdef", 104), 0);
        due("rounds: 13 of 25", vote(6, "13fabcde;12abcdef", 104), 5);
    }

    // ---- FAIR

    private static int fair(String docket, int many) {
        PeacockDesk desk = new PeacockDesk();
        Bench.docket(desk, docket);
        return desk.fair(many);
    }

    /** "of 10 at most; more: -4; none left: 0" */
    private static void fairOfTen() {
        for (int many = 1; many <= 4; many++) {
            due("fair of none", new PeacockDesk().fair(many), 0);
            due("fair of nine, " + many, fair(times("a10", 9), many), (9 + many - 1) / many * 10);
            due("fair of ten, " + many, fair(times("a10", 10), many), (10 + many - 1) / many * 10);
            due("fair of eleven, " + many, fair(times("a10", 11), many), -4);
            due("fair of 24, " + many, fair(times("a0", 24), many), -4);
            due("fair of one, " + many, fair("a99", many), 99);
            due("fair of nothing, " + many, fair("a0", many), 0);
        }
        due("fair: ten by one", fair(times("a99", 10), 1), 990);
        due("fair: two by four", fair("a7;b9", 4), 9);
        due("fair: four by four", fair("a7;b9;c8;d1", 4), 9);
        due("fair: five by four", fair("a7;b9;c8;d2;e3", 4), 9);
        due("fair: five by four, one more", fair("a7;b9;c8;d2;e8", 4), 9);
        due("fair: five by four, ten", fair("a7;b9;c8;d3;e8", 4), 10);
        PeacockDesk desk = new PeacockDesk();
        Bench.docket(desk, times("a10", 10) + ";b99>0;c98>0");
        due("fair: twelve", desk.fair(1), -4);
        desk.days(1);
        due("fair: eleven left", desk.fair(1), -4);
        desk.days(1);
        due("fair: ten left", desk.fair(1), 100);
        due("fair: ten left, by four", desk.fair(4), 30);
        desk.say(10, 0);
        due("fair: eleven again", desk.fair(4), -4);
        PeacockDesk gone = new PeacockDesk();
        Bench.docket(gone, "a5>0;b6>1");
        gone.days(1);
        due("fair: none left", gone.fair(2), 0);
    }

    // ---- SEATS

    private static int seats(int many, boolean highest, int what, int... votes) {
        PeacockDesk desk = new PeacockDesk();
        Bench.feed(desk, votes);
        return desk.seats(votes.length, many, highest, what);
    }

    private static void shares(int many, boolean highest, int[] votes, int... want) {
        for (int i = 0; i < want.length; i++) {
            due("seats " + many + (highest ? " highest " : " rests ") + java.util.Arrays.toString(votes) + " of " + i,
                seats(many, highest, i, votes), want[i]);
        }
        due("seats: no party " + want.length, seats(many, highest, want.length, votes), NONE);
    }

    private static int[] row(int... numbers) {
        return numbers;
    }

    /** "those left one each by the greatest rest, of like ones the lowest" */
    private static void seatsByRests() {
        shares(4, false, row(1, 1, 1, 1), 1, 1, 1, 1);
        shares(3, false, row(1, 1, 1, 1), 1, 1, 1, 0);
        shares(5, false, row(1, 1, 1, 1), 2, 1, 1, 1);
        shares(7, false, row(1, 1, 1, 1), 2, 2, 2, 1);
        shares(1, false, row(1, 1), 1, 0);
        shares(1, false, row(1, 2), 0, 1);
        shares(2, false, row(2, 1, 1), 1, 1, 0);
        shares(2, false, row(1, 1, 2), 1, 0, 1);
        shares(3, false, row(3, 3, 2), 1, 1, 1);
        // 5 1 3 of 9, 4 seats: 20 4 12 through 9: 2 r 2, 0 r 4, 1 r 3: the smallest has the greatest rest.
        shares(4, false, row(5, 1, 3), 2, 1, 1);
        shares(60, false, row(255, 0), 60, 0);
        shares(60, false, row(0, 255), 0, 60);
        shares(60, false, row(255, 1), 60, 0);
        // 60 times 2 through 128 is below 1: the rest 120 is above that of the other, 8.
        shares(60, false, row(126, 2), 59, 1);
        shares(60, false, row(255, 255, 255, 255, 255, 255, 255, 255), 8, 8, 8, 8, 7, 7, 7, 7);
        shares(5, false, row(0, 0, 0), -2, -2, -2);
        shares(1, false, row(0, 0, 0, 0, 0, 0, 0, 1), 0, 0, 0, 0, 0, 0, 0, 1);
    }

    /** "one by one to the party whose votes through one more than its seats are most; of like ones the lowest" */
    private static void seatsByHighest() {
        shares(1, true, row(2, 1), 1, 0);
        shares(2, true, row(2, 1), 2, 0);
        shares(3, true, row(2, 1), 2, 1);
        shares(2, true, row(1, 2), 1, 1);
        shares(3, true, row(1, 2), 1, 2);
        shares(1, true, row(1, 2), 0, 1);
        shares(1, true, row(1, 1, 1), 1, 0, 0);
        shares(2, true, row(1, 1, 1), 1, 1, 0);
        shares(4, true, row(1, 1, 1), 2, 1, 1);
        // 5 1 3, 4 seats: 5, 3, 2.5, then 5/3 above 3/2 and 1.
        shares(4, true, row(5, 1, 3), 3, 0, 1);
        shares(5, true, row(5, 1, 3), 3, 0, 2);
        shares(60, true, row(255, 1), 60, 0);
        shares(60, true, row(60, 1), 60, 0);
        shares(60, true, row(59, 1), 59, 1);
        shares(60, true, row(58, 1), 59, 1);
        shares(60, true, row(1, 59), 1, 59);
        shares(60, true, row(1, 60), 1, 59);
        shares(60, true, row(1, 61), 0, 60);
        shares(60, true, row(255, 0), 60, 0);
        shares(5, true, row(0, 0), -2, -2);
        // 255 through 2 is above 127, and below 128.
        shares(2, true, row(255, 127), 2, 0);
        shares(2, true, row(255, 128), 1, 1);
    }

    private static void seatsAddUp() {
        int x = 1;
        for (int i = 0; i < 300; i++) {
            int n = 2 + i % 7;
            int[] votes = new int[n];
            for (int j = 0; j < n; j++) {
                x = (25173 * x + 13849) & 65535;
                votes[j] = x >> 8;
            }
            votes[i % n] |= 1;
            int many = 1 + i % 60;
            int rests = 0;
            int highest = 0;
            for (int j = 0; j < n; j++) {
                rests += seats(many, false, j, votes);
                highest += seats(many, true, j, votes);
            }
            due("seats by rests add up, " + i, rests, many);
            due("seats by highest add up, " + i, highest, many);
        }
    }

    // ---- POWER

    private static int power(int quota, int what, int... weights) {
        PeacockDesk desk = new PeacockDesk();
        Bench.feed(desk, weights);
        return desk.power(weights.length, quota, what);
    }

    private static void orders(int quota, int[] weights, int most, int... want) {
        String name = "power of " + java.util.Arrays.toString(weights) + ", quota " + quota;
        for (int i = 0; i < want.length; i++) due(name + " of " + i, power(quota, i, weights), want[i]);
        due(name + ": who", power(quota, 100, weights), most);
        due(name + ": no such one", power(quota, want.length, weights), NONE);
    }

    /** "reach the quota first": at the quota, one below, one above; "who has most (of like ones the lowest; none has any: 0)" */
    private static void powerAtQuota() {
        orders(1, row(3, 2), 0, 1, 1);
        orders(2, row(3, 2), 0, 1, 1);
        orders(3, row(3, 2), 0, 2, 0);
        orders(4, row(3, 2), 0, 1, 1);
        orders(5, row(3, 2), 0, 1, 1);
        orders(6, row(3, 2), 0, 0, 0);
        orders(3, row(2, 3), 1, 0, 2);
        orders(1, row(0, 1), 1, 0, 2);
        orders(1, row(0, 0), 0, 0, 0);
        orders(2, row(0, 1), 0, 0, 0);
        // 50 49 1: at 50 the first alone or the two others; at 51 the first with one of them.
        orders(50, row(50, 49, 1), 0, 4, 1, 1);
        orders(51, row(50, 49, 1), 0, 4, 1, 1);
        orders(52, row(50, 49, 1), 0, 3, 3, 0);
        orders(49, row(50, 49, 1), 0, 3, 3, 0);
        orders(99, row(50, 49, 1), 0, 3, 3, 0);
        orders(100, row(50, 49, 1), 0, 2, 2, 2);
        orders(101, row(50, 49, 1), 0, 0, 0, 0);
        orders(1, row(50, 49, 1), 0, 2, 2, 2);
        int[] eight = row(255, 255, 255, 255, 255, 255, 255, 255);
        orders(2040, eight, 0, 5040, 5040, 5040, 5040, 5040, 5040, 5040, 5040);
        orders(1, eight, 0, 5040, 5040, 5040, 5040, 5040, 5040, 5040, 5040);
        orders(2039, row(254, 255, 255, 255, 255, 255, 255, 255), 0, 5040, 5040, 5040, 5040, 5040, 5040, 5040, 5040);
        orders(2040, row(254, 255, 255, 255, 255, 255, 255, 255), 0, 0, 0, 0, 0, 0, 0, 0, 0);
        orders(255, row(0, 0, 0, 0, 0, 0, 0, 255), 7, 0, 0, 0, 0, 0, 0, 0, 40320);
        orders(4, row(1, 1, 1, 1, 1, 1, 1), 0, 720, 720, 720, 720, 720, 720, 720);
    }

    // ---- QUILLS

    private static int quills(int what, int... digits) {
        PeacockDesk desk = new PeacockDesk();
        Bench.feed(desk, digits);
        return desk.quills(digits.length, what);
    }

    private static void quillsByHand() {
        // 1 9: 2 + 9 = 11.
        due("quills 19", quills(0, 1, 9), 1);
        due("quills 18", quills(0, 1, 8), 0);
        due("quills 29", quills(0, 2, 9), 0);
        due("quills: a byte of 9", quills(0, 9, 9), 0);
        due("quills: a byte of 10 first", quills(0, 10, 9), -3);
        due("quills: a byte of 10 last", quills(1, 9, 10), -3);
        due("quills: a byte of 255", quills(2, 9, 255), -3);
        due("quills: the 12th byte", quills(0, 0, 0, 0, 0, 0, 0, 0, 0, 0, 0, 0, 10), -3);
        due("quills: a 13th byte is not asked", thirteen(0), 1);
        // 5 ?: 10 + 1 = 11; 6 ?: 12 + 10; 0 ?: 0; 1 ?: 2 + 9.
        due("quills: the last digit 1", quills(1, 5, 0), 1);
        due("quills: the last digit 10", quills(1, 6, 0), 10);
        due("quills: the last digit 0", quills(1, 0, 9), 0);
        due("quills: the last digit 9", quills(1, 1, 9), 9);
        // 19 with one digit changed: none other; 6 9: 12 + 9 = 21, the first would be 1, the last none.
        due("quills: ways of 19", quills(2, 1, 9), 0);
        due("quills: ways of 69", quills(2, 6, 9), 1);
        due("quills: ways of twelve zeros", quills(2, 0, 0, 0, 0, 0, 0, 0, 0, 0, 0, 0, 0), 9);
        due("quills: ways of ten zeros", quills(2, 0, 0, 0, 0, 0, 0, 0, 0, 0, 0), 0);
    }

    private static int thirteen(int what) {
        PeacockDesk desk = new PeacockDesk();
        Bench.feed(desk, 0, 0, 0, 0, 0, 0, 0, 0, 0, 0, 0, 0, 10);
        return desk.quills(12, what);
    }

    private static boolean right(int... digits) {
        int sum = 0;
        for (int place = 1; place <= digits.length; place++) sum += place * digits[digits.length - place];
        return sum % 11 == 0;
    }

    private static int waysOf(int... digits) {
        int ways = 0;
        for (int i = 0; i < digits.length; i++) {
            int is = digits[i];
            for (int d = 0; d <= 9; d++) {
                digits[i] = d;
                if (d != is && right(digits)) ways++;
            }
            digits[i] = is;
        }
        return ways;
    }

    private static int lastOf(int... digits) {
        int[] copy = digits.clone();
        for (int d = 0; d <= 9; d++) {
            copy[copy.length - 1] = d;
            if (right(copy)) return d;
        }
        return 10;
    }

    private static void quillsAre(int... digits) {
        String name = "quills " + java.util.Arrays.toString(digits);
        due(name, quills(0, digits), right(digits) ? 1 : 0);
        due(name + ": last", quills(1, digits), lastOf(digits));
        due(name + ": ways", quills(2, digits), waysOf(digits.clone()));
    }

    private static void quillsOfTwo() {
        for (int a = 0; a <= 9; a++) {
            for (int b = 0; b <= 9; b++) quillsAre(a, b);
        }
    }

    private static void quillsOfMany() {
        int x = 7;
        for (int n = 2; n <= 12; n++) {
            for (int i = 0; i < 60; i++) {
                int[] digits = new int[n];
                for (int j = 0; j < n; j++) {
                    x = (25173 * x + 13849) & 65535;
                    digits[j] = (x >> 4) % 10;
                }
                quillsAre(digits);
                digits[n - 1] = Math.min(9, lastOf(digits));
                quillsAre(digits);
            }
        }
    }

    // ---- the calendar

    private static void allDays() {
        PeacockDesk desk = new PeacockDesk();
        int wrong = 0;
        LocalDate end = LocalDate.of(3000, 1, 1);
        for (LocalDate day = LocalDate.of(1600, 1, 1); day.isBefore(end); day = day.plusDays(1)) {
            int is = desk.weekday(day.getDayOfMonth(), day.getMonthValue(), day.getYear());
            if (is != day.getDayOfWeek().getValue() - 1) wrong++;
        }
        due("weekday of all days, wrong ones", wrong, 0);
        due("weekday: the first day", desk.weekday(1, 1, 1600), 5);
        due("weekday: the last day", desk.weekday(31, 12, 2999), 1);
    }

    private static void noSuchDays() {
        PeacockDesk desk = new PeacockDesk();
        for (int year : new int[] {1600, 1700, 1800, 1900, 1999, 2000, 2001, 2004, 2100, 2400, 2900, 2996, 2999}) {
            for (int month = 1; month <= 12; month++) {
                int last = LocalDate.of(year, month, 1).lengthOfMonth();
                String name = "weekday " + month + " " + year;
                int before = (desk.weekday(last - 1, month, year) + 1) % 7;
                due(name + ": the last", desk.weekday(last, month, year), before);
                for (int day : new int[] {last + 1, 0, -1, 32, Integer.MIN_VALUE, Integer.MAX_VALUE}) {
                    due(name + ": no day " + day, desk.weekday(day, month, year), -2);
                }
            }
            due("weekday: no month 0 of " + year, desk.weekday(1, 0, year), NONE);
            due("weekday: no month 13 of " + year, desk.weekday(1, 13, year), NONE);
            due("weekday: no day, no month of " + year, desk.weekday(0, 13, year), NONE);
        }
        due("weekday: no day, no year", desk.weekday(0, 1, 1599), NONE);
        due("weekday: no day, no year above", desk.weekday(32, 1, 3000), NONE);
    }

    /** "from one day on to another one (without it)", "both days of it, the first no later" */
    private static void daysOfWork() {
        PeacockDesk desk = new PeacockDesk();
        for (int year : new int[] {1600, 1700, 1900, 2000, 2023, 2024, 2026, 2999}) {
            int last = LocalDate.of(year, 1, 1).lengthOfYear();
            int[] till = new int[last + 1];
            for (int day = 1; day < last; day++) {
                boolean works = LocalDate.ofYearDay(year, day).getDayOfWeek().getValue() <= 5;
                till[day + 1] = till[day] + (works ? 1 : 0);
            }
            int wrong = 0;
            for (int from = 1; from <= last; from++) {
                for (int to = from; to <= last; to++) {
                    if (desk.work(year, from, to) != till[to] - till[from]) wrong++;
                }
            }
            due("work in " + year + ", wrong ones", wrong, 0);
            due("work in " + year + ": from the last to it", desk.work(year, last, last), 0);
            due("work in " + year + ": to one more", desk.work(year, 1, last + 1), NONE);
            due("work in " + year + ": from one more", desk.work(year, last + 1, last + 1), NONE);
            due("work in " + year + ": from 0", desk.work(year, 0, 1), NONE);
            due("work in " + year + ": from 0 to 0", desk.work(year, 0, 0), NONE);
            due("work in " + year + ": back by one", desk.work(year, 9, 8), NONE);
            due("work in " + year + ": on by none", desk.work(year, 9, 9), 0);
        }
    }

    // ---- A CRY

    /** "rounded up (the way there and back as the crow flies)" */
    private static void allCries() {
        PeacockDesk desk = new PeacockDesk();
        int wrong = 0;
        for (int across = 0; across <= 99; across++) {
            for (int along = 0; along <= 99; along++) {
                long way = 4L * (across * across + along * along);
                for (int fast = 1; fast <= 99; fast++) {
                    long is = desk.cry(across, along, fast);
                    boolean enough = is * is * fast * fast >= way;
                    boolean tooMany = is > 0 && (is - 1) * (is - 1) * fast * fast >= way;
                    if (!enough || tooMany || is < 0) wrong++;
                }
            }
        }
        due("cry: wrong ones", wrong, 0);
        due("cry: from the terrace", desk.cry(0, 0, 1), 0);
        due("cry: just 10", desk.cry(3, 4, 1), 10);
        due("cry: just 10 by 5", desk.cry(3, 4, 5), 2);
        due("cry: 10 by 4", desk.cry(3, 4, 4), 3);
        due("cry: 10 by 10", desk.cry(3, 4, 10), 1);
        due("cry: 10 by 9", desk.cry(3, 4, 9), 2);
        due("cry: 10 by 11", desk.cry(3, 4, 11), 1);
        due("cry: the longest", desk.cry(99, 99, 1), 281);
        due("cry: the longest by 99", desk.cry(99, 99, 99), 3);
        due("cry: 198 by 99", desk.cry(99, 0, 99), 2);
        due("cry: 198 by 98", desk.cry(99, 0, 98), 3);
    }

    // ---- PICKED UP

    private static int picked(int from, int... feathers) {
        PeacockDesk desk = new PeacockDesk();
        Bench.feed(desk, feathers);
        return desk.pickedUp(feathers.length / 2, from);
    }

    /** "each till a minute (bytes, with it)", "each that lies where one is or goes by being had" */
    private static void feathers() {
        due("feathers: where one is, at minute 0", picked(9, 9, 0), 1);
        due("feathers: one step, minute 0", picked(9, 10, 0), 0);
        due("feathers: one step, minute 1", picked(9, 10, 1), 1);
        due("feathers: one step back, minute 1", picked(9, 8, 1), 1);
        due("feathers: one step back, minute 0", picked(9, 8, 0), 0);
        for (int far = 0; far <= 255; far++) {
            due("feathers: far " + far, picked(0, far, far), 1);
            if (far > 0) due("feathers: far " + far + ", too late", picked(0, far, far - 1), 0);
            due("feathers: from 255, far " + far, picked(255, 255 - far, far), 1);
            if (far > 0) due("feathers: from 255, far " + far + ", too late", picked(255, 255 - far, far - 1), 0);
        }
        due("feathers: ten where one is", picked(3, 3, 0, 3, 0, 3, 0, 3, 0, 3, 0, 3, 0, 3, 0, 3, 0, 3, 0, 3, 0), 10);
        due("feathers: ten at 255", picked(0, 255, 255, 255, 255, 255, 255, 255, 255, 255, 255, 255, 255, 255, 255, 255, 255, 255, 255, 255, 255), 10);
        due("feathers: goes by", picked(0, 2, 2, 4, 4), 2);
        due("feathers: goes by, too late for the first", picked(0, 2, 1, 4, 4), 1);
        due("feathers: one, then back to the other", picked(5, 4, 1, 6, 3), 2);
        due("feathers: one, then back, too late", picked(5, 4, 1, 6, 2), 1);
        due("feathers: the other first", picked(5, 4, 3, 6, 1), 2);
        due("feathers: one of two", picked(5, 4, 1, 6, 1), 1);
        due("feathers: turning twice", picked(5, 4, 1, 6, 3, 3, 6), 3);
        due("feathers: turning twice, too late", picked(5, 4, 1, 6, 3, 3, 5), 2);
        due("feathers: two behind rather than one ahead", picked(5, 9, 4, 1, 4, 0, 5), 2);
        due("feathers: told from right to left", picked(0, 9, 9, 6, 6, 3, 3), 3);
        due("feathers: like places, unlike minutes", picked(0, 3, 2, 3, 3, 3, 4), 2);
        due("feathers: none", picked(0, 255, 0, 200, 1, 100, 99), 0);
        due("feathers: no 11", new PeacockDesk().pickedUp(11, 0), NONE);
    }

    // ---- TAILS

    private static int tails(int many, int... every) {
        PeacockDesk desk = new PeacockDesk();
        Bench.feed(desk, every);
        return desk.tails(every.length, many);
    }

    /** "the first beat above 0 at which so many at least do (-2: none up to 100000)", "-3: every 0" */
    private static void tails() {
        // No beat between these two can be the first one: 99990 is 90 * 11 * 101, 100005 is 15 * 59 * 113.
        due("tails: 99990", tails(3, 90, 11, 101), 99990);
        due("tails: 100005", tails(3, 15, 59, 113), -2);
        due("tails: 100005, two of them", tails(2, 15, 59, 113), 885);
        due("tails: 99979", tails(3, 11, 61, 149), 99979);
        due("tails: 100009", tails(3, 49, 13, 157), -2);
        due("tails: every 1", tails(1, 1, 1), 1);
        due("tails: every 1, both", tails(2, 1, 1), 1);
        due("tails: every 255", tails(2, 255, 255), 255);
        due("tails: 255 and 254", tails(2, 255, 254), 64770);
        due("tails: more than so many", tails(2, 6, 6, 6, 5), 6);
        due("tails: so many, all", tails(4, 6, 6, 6, 5), 30);
        due("tails: the first of each", tails(1, 9, 7, 8), 7);
        int[] twelve = {1, 1, 1, 1, 1, 1, 1, 1, 1, 1, 1, 255};
        for (int many = 1; many <= 12; many++) {
            due("tails: " + many + " of twelve", tails(many, twelve), many == 12 ? 255 : 1);
        }
        due("tails: thirteen of twelve", tails(13, twelve), NONE);
        due("tails: none of twelve", tails(0, twelve), NONE);
        for (int zero = 0; zero < 12; zero++) {
            int[] row = twelve.clone();
            row[zero] = 0;
            due("tails: every 0 at " + zero, tails(1, row), -3);
        }
        due("tails: all every 0", tails(2, 0, 0), -3);
        int[] primes = {251, 241, 239, 233, 229, 227, 223, 211, 199, 197, 193, 191};
        due("tails: two of twelve", tails(2, primes), 191 * 193);
        due("tails: three of twelve", tails(3, primes), -2);
        due("tails: twelve of twelve", tails(12, primes), -2);
    }
}
