/**
 * THE LAW as it is asked and A DAY as it goes by: bounds of what a rule is worth, eyes, draws, the hen,
 * the last DAY there is, what is tried, kept, undone and checked.
 */
public final class EdgesOfDaysTest {
    private static final int NONE = PeacockDesk.NONE;

    public static void main(String[] args) {
        worthOfTaking();
        worthOfCrying();
        helping();
        moulting();
        facts();
        sums32();
        longLaws();
        dividedByZero();
        eyes();
        hen();
        daysOfOne();
        draws();
        dayModuloHundred();
        lastDay();
        mostDays();
        asManyAsAsked();
        triedThen();
        byWhen();
        quiet();
        heardAndLongest();
        subjectsAndNumbers();
        kept();
        keptOfOthers();
        moreThanTwelve();
        checked();
        counted();
        Bench.end("EdgesOfDaysTest");
    }

    private static void due(String call, long got, long want) {
        Bench.due(call, got, want);
    }

    private static long truth(boolean is) {
        return is ? 1 : 0;
    }

    private static String times(String line, int many) {
        return (line + ";").repeat(many).substring(0, (line.length() + 1) * many - 1);
    }

    private static PeacockDesk desk(String docket, String law) {
        PeacockDesk desk = new PeacockDesk();
        due("docket " + docket, Bench.docket(desk, docket), docket.split(";").length);
        if (!law.isEmpty()) due("law " + law, Bench.law(desk, law), law.split(";").length);
        return desk;
    }

    private static int next(int x) {
        return (int) ((25173L * x + 13849L) % 65536L);
    }

    private static int behind(int x, int draws) {
        int is = x;
        for (int i = 0; i < draws; i++) is = next(is);
        return is;
    }

    /** A seed whose first two draws are these (one of them even, the other odd). */
    private static int seedOf(int first, int second) {
        for (int x = 0; x < 65536; x++) {
            if (next(x) % 10 == first && behind(x, 2) % 10 == second) return x;
        }
        throw new IllegalArgumentException(first + " " + second);
    }

    /** Which peacock has the first complaint behind a day on which none cries; -2: none. */
    private static int taker(String rules) {
        PeacockDesk desk = desk("a1", rules + ";k0(1=1)");
        desk.days(1);
        return desk.caseIs(0, 4);
    }

    // ---- THE LAW

    /** "e how a PEACOCK would take a COMPLAINT (0 to 9999 ..; beyond its bounds the bound; of e none: 0)" */
    private static void worthOfTaking() {
        due("e 0", taker("e0(1=1)"), -2);
        due("e 1", taker("e1(p=6)"), 6);
        due("e -1", taker("e0-1(1=1)"), -2);
        due("e below 0 beside 1", taker("e0-1(p=1);e1(p=2)"), 2);
        due("e 9999 above 9998", taker("e9998(p=1);e9999(p=2)"), 2);
        due("e 10000 above 9998", taker("e9998(p=1);e10000(p=2)"), 2);
        due("e 10000 is 9999", taker("e9999(p=1);e10000(p=2)"), 1);
        due("e 9999 and 10000, the lowest", taker("e10000(p=1);e9999(p=2)"), 1);
        due("e 99999 is 9999", taker("e99999(p=7);e9999(p=5)"), 5);
        due("e none", taker("e5(1=2)"), -2);
        due("e no rule", taker("x(1=2)"), -2);
        due("e the first whose C holds", taker("e0(p=1);e5(p=1)"), -2);
        due("e the second if the first does not hold", taker("e0(p=2);e5(p=1)"), 1);
        due("e like ones, the lowest", taker("e4(p>2)"), 3);
        due("e like ones with the hen", taker("e4(p>6)"), 7);
        due("e the hen alone", taker("e4(p>7)"), 8);
        due("e the hen most", taker("ep(1=1)"), 8);
        due("e peacock 0 most", taker("e9-p(1=1)"), 0);
    }

    /** Which of two complaints of one peacock is DONE behind a day (bits). */
    private static int cried(String rules) {
        PeacockDesk desk = desk("a1>0;b2>0", rules);
        return desk.tried(1, 3);
    }

    /** "k how it would cry one it has (0 to 9999; none: 1)"; "k above 0; of like ones the lowest; is there none, no more" */
    private static void worthOfCrying() {
        due("k 0 for the first", cried("k0(c=0)"), 2);
        due("k 0 for the second", cried("k0(c=1)"), 1);
        due("k -1 is 0", cried("k0-1(c=0)"), 2);
        due("k none: 1, like 1", cried("k1(c=1)"), 1);
        due("k none: 1, below 2", cried("k2(c=1)"), 2);
        due("k none: 1, in place of a rule that does not hold", cried("k5(1=2);k1(c=1)"), 1);
        due("k 9999 above 9998", cried("k9998(c=0);k9999(c=1)"), 2);
        due("k 10000 above 9998", cried("k9998(c=0);k10000(c=1)"), 2);
        due("k 10000 is 9999", cried("k9999(c=0);k10000(c=1)"), 1);
        due("k 99999 is 9999", cried("k9999(c=0);k99999(c=1)"), 1);
        due("k 0 and 0", cried("k0(1=1)"), 0);
        due("k the first rule", cried("k0(c=0);k9(1=1)"), 2);
        PeacockDesk silent = desk("a1>0;b2>0", "k0(1=1)");
        due("k 0: none is DONE", silent.days(1), 0);
        due("k 0: no CRIES", silent.count(4), 0);
        due("k 0: no other DRAW", silent.count(7), behind(1, 8));
    }

    /** "h tenths that this helps (0 to 10; none: 10)"; "with another DRAW below h of that one it is DONE" */
    private static void helping() {
        for (int second = 0; second <= 9; second++) {
            int seed = seedOf((second + 1) % 10, second);
            for (int h = 0; h <= 11; h++) {
                PeacockDesk desk = desk("a1>0", "h" + h + "(1=1)");
                desk.seed(seed);
                due("h " + h + ", the other DRAW " + second, desk.days(1), truth(second < h));
                due("h " + h + ", the other DRAW " + second + ": CRIES", desk.peacockIs(0, 1), 1);
            }
            for (String rules : new String[] {"h0-1(1=1)", "h1/0(1=1)", "h99999*30000(1=1)"}) {
                PeacockDesk desk = desk("a1>0", rules);
                desk.seed(seed);
                due(rules + ", the other DRAW " + second, desk.days(1), 0);
            }
            for (String rules : new String[] {"h99999(1=1)", "h0(1=2)", "k1(1=1)", "h0(1/0=0)"}) {
                PeacockDesk desk = desk("a1>0", rules);
                desk.seed(seed);
                due(rules + ", the other DRAW " + second, desk.days(1), 1);
            }
        }
        // Asked with the first DRAW, as all is ahead of the cry, of the one that is cried.
        PeacockDesk desk = desk("a1>0;b2!>0", "kc+1(1=1);h10(w=4&r=0&q=2&c=1&v=2&u=1&s=1);h0(1=1)");
        desk.seed(seedOf(4, 9));
        due("h as all is ahead of the cry", desk.tried(1, 3), 2);
        due("h as all is on the second day", desk.tried(2, 3), 2);
    }

    /** "by x it moults: all it has are WAITING again"; "without an x in THE LAW none does" */
    private static void moulting() {
        for (int w = 0; w <= 9; w++) {
            PeacockDesk desk = desk("a1>0;b2>0", "x(w=" + w + ")");
            desk.seed(seedOf(w, (w + 1) % 10));
            due("x(w=" + w + ")", desk.days(1), 0);
            due("x(w=" + w + "): WAITING", desk.count(2), 3);
            due("x(w=" + w + "): one DRAW each", desk.count(7), behind(seedOf(w, (w + 1) % 10), 8));
            due("x(w=" + w + "): DAYS", desk.caseIs(1, 5), 1);
            PeacockDesk other = desk("a1>0;b2>0", "x(w=" + w + "&p=0)");
            other.seed(seedOf((w + 1) % 10, w));
            due("x(w=" + w + "), another DRAW", other.days(1), 1);
        }
        PeacockDesk twelve = desk(times("a1>3", 12), "x(q=12)");
        twelve.days(1);
        due("x: all twelve", twelve.count(2), 4095);
        due("x: it has none", twelve.peacockIs(3, 0), 0);
        due("x: it has eyes again", truth(twelve.say(0, 3)), 1);
        due("x: the second will do", desk("a1>0", "x(1=2);x(1=1)").tried(1, 2), 1);
        due("x: none holds", desk("a1>0", "x(1=2);x(2=1)").tried(1, 3), 1);
        due("x: one that is REFUSED does not hold", desk("a1>0", "x(1/0=0)").tried(1, 3), 1);
        due("x: only those", desk("a1>0;b1>1;c1>2", "x(p=1)").tried(1, 2), 2);
        // Taken on the day, given back on the same one; by the next, lower one not taken till the next day.
        PeacockDesk again = desk("a1", "e1(p=2|p=3);x(p=2&t=0)");
        again.days(1);
        due("x: taken and given back", again.count(2), 1);
        again.days(1);
        due("x: taken and cried then", again.peacockIs(2, 1), 1);
    }

    private static void facts() {
        // In x: c 24, s 16, v 0, u 0, d 0; q, r, t, w as they are.
        String[] hold = {"c=24", "s=16", "v=0", "u=0", "d=0", "q=2", "r=1", "t=1", "p=5"};
        String[] fail = {"c=23", "c=25", "s=15", "s=17", "v=99", "u=1", "d=1", "q=1", "q=3", "r=0", "r=2", "t=0", "t=2", "p=4"};
        for (String test : hold) {
            due("in x: " + test, moultsOnSecond(test), 3);
        }
        for (String test : fail) {
            due("in x not: " + test, moultsOnSecond(test), 0);
        }
        // In e: w 0 whatever the draws, q as it is then.
        for (int seed = 0; seed < 30; seed++) {
            PeacockDesk desk = desk("a1", "e1(w=0&p=1);k0(1=1)");
            desk.seed(seed);
            desk.days(1);
            due("in e w is 0", desk.caseIs(0, 4), 1);
        }
        PeacockDesk then = desk("a1;a1;a1;a1;a1", "e9(p=1&q=0);e8(p=2&q<2);e7(p=8);k0(1=1)");
        then.days(1);
        due("in e q is as it is then: 1", then.peacockIs(1, 0), 1);
        due("in e q is as it is then: 2", then.peacockIs(2, 0), 6);
        due("in e q is as it is then: the hen", then.peacockIs(8, 0), 24);
    }

    private static int moultsOnSecond(String test) {
        PeacockDesk desk = desk("p99!>5;p99!>5", "h0(1=1)");
        desk.days(1);
        Bench.law(desk, "x(p=5&" + test + ");h0(1=1)");
        return desk.tried(1, 2);
    }

    /** "All is reckoned with 32 bits, as the machine does" */
    private static void sums32() {
        String most = "[46340*46340+88047]";
        String least = "[46340*46340+88048]";
        String[] hold = {most + ">0", least + "<0", most + "+1=" + least, least + "-1=" + most, least + "/[0-1]=" + least, least + "%[0-1]=0",
            "0-" + least + "=" + least, most + "+" + most + "=0-2", "46340*46340>0", "46341*46341<0", "65536*65536=0",
            "[0-7]/2=0-3", "[0-7]%2=0-1", "7/[0-2]=0-3", "7%[0-2]=1", "7/7=1", "6/7=0", "6%7=6", "7%7=0", "0/5=0", "0%5=0",
            "1-2-3=0-4", "2*3%4=2", "2+3*4=14", "10-4/2=8", "10%4*3=6", "10/4*3=6", "100/10/5=2", "17%10%4=3"};
        for (String test : hold) {
            due("32 bits: " + test, taker("e1(p=4&" + test + ")"), 4);
            due("32 bits, not: " + test, taker("e1(p=4&!" + test + ")"), -2);
        }
        due("32 bits: E is the least", taker("e" + least + "(1=1)"), -2);
        due("32 bits: E is the most", taker("e" + most + "(p=3);e9999(p=4)"), 3);
    }

    /** As many signs in a row as 240 bytes hold. */
    private static void longLaws() {
        due("long: 110 ones", taker("e9(p=1);e" + "1+".repeat(100) + "1-91(p=2);e10(p=4)"), 2);
        due("long: 110 ones, one less", taker("e9(p=1);e" + "1+".repeat(100) + "1-92(p=2);e10(p=4)"), 4);
        due("long: minus", taker("e105" + "-1".repeat(100) + "(p=2);e4(p=7)"), 2);
        due("long: times", taker("e1" + "*1".repeat(100) + "(p=2)"), 2);
        due("long: through", taker("e7" + "/1".repeat(100) + "(p=2)"), 2);
        due("long: signs in turn", taker("e5" + "+6/3".repeat(50) + "-100(p=2);e4(p=7)"), 2);
        due("long: 50 tests", taker("e1(p=2" + "&1=1".repeat(50) + ")"), 2);
        due("long: 50 tests, the last fails", taker("e1(p=2" + "&1=1".repeat(49) + "&1=2)"), -2);
        due("long: 50 tests, the first fails", taker("e1(1=2" + "&p=2".repeat(50) + ")"), -2);
        due("long: 50 parts", taker("e1(1=2" + "|1=2".repeat(49) + "|p=6)"), 6);
        due("long: 50 parts, none holds", taker("e1(1=2" + "|1=2".repeat(50) + ")"), -2);
        due("long: 50 parts, the first holds", taker("e1(p=6" + "|1=2".repeat(50) + ")"), 6);
        due("long: & and |", taker("e1(1=2&p=p" + "|1=2&p=p".repeat(24) + "|p=3&p=p)"), 3);
        due("long: ! in a row", taker("e1(p=3" + "&!1=2".repeat(40) + ")"), 3);
        due("long: ( in a row", taker("e1(p=3" + "&(1=1)".repeat(30) + ")"), 3);
        due("long: [ in a row", taker("e[1]" + "+[1]".repeat(50) + "-[50](p=3)"), 3);
        String deep = "9-[8-[7-[6-[5-[4-[p-2]]]]]]";
        due("long: brackets at the right", taker("e" + deep + "(p=2);e5(p=4)"), 4);
        due("long: brackets at the right, one more", taker("e" + deep + "+1(p=2);e5(p=4)"), 4);
        due("long: brackets at the right, two more", taker("e" + deep + "+2(p=2);e5(p=4)"), 2);
    }

    /** "what is divided by 0 is REFUSED: then the whole C of the RULE does not hold, the E of it is 0" */
    private static void dividedByZero() {
        String[] refused = {"1/0=1", "1%0=1", "1/0=0", "0/0=0", "0%0=0", "!1/0=1", "!!1/0=1", "1/0=1|1=1", "1=1&1/0=1", "!(1=1&1/0=1)",
            "1=2|1/0=1|1=1", "(1/0=1)|1=1", "!(1/0=1)|1=1", "1=1/0", "1<1/0", "1>1%0", "0*[1/0]=0", "1/[p-p]=1", "1%[c-c]=1", "1=1&(1=2|1/0=1)|1=1"};
        for (String test : refused) {
            due("REFUSED: " + test, taker("e1(" + test + ")"), -2);
            due("REFUSED: " + test + ", the next rule", taker("e1(" + test + ");e1(p=7)"), 7);
        }
        // As much is asked, from the left, as matters.
        String[] hold = {"1=1|1/0=1", "1=2&1/0=1|1=1", "!(1=2&1/0=1)", "(1=1|1/0=1)&1=1", "1=1&1=1|1/0=1", "1=2&1=1&1/0=1|1=1", "!1=2|1/0=1",
            "1=2&(1=1&1/0=1)|1=1", "(1=2&1/0=1|1=1)&(1=1|1/0=1)", "1=2|1=1|1/0=1", "1/1=1", "1%1=0", "0/1=0"};
        for (String test : hold) {
            due("not asked: " + test, taker("e1(p=7&(" + test + "))"), 7);
        }
        String[] fail = {"1=2&1/0=1", "1=2&1/0=1&1=1", "(1=2|1=3)&1/0=1", "!(1=1|1/0=1)"};
        for (String test : fail) {
            due("not asked, does not hold: " + test, taker("e1(" + test + ");e1(p=7)"), 7);
        }
        // The E of a rule that holds is 0: no other rule of it is asked.
        due("E divided by 0", taker("e1/0(p=3);e5(p=3)"), -2);
        due("E divided by 0, beside 1", taker("e9+1/0(p=3);e1(p=5)"), 5);
        due("E divided by 0, in brackets", taker("e9+[1%[p-3]](p=3);e1(p=5)"), 5);
        due("E divided by 1", taker("e1/1(p=3)"), 3);
        due("k divided by 0", cried("k1/0(c=0);k1(c=1)"), 2);
        due("k divided by 0, both", cried("k1%0(1=1)"), 0);
    }

    // ---- A DAY

    /** "TAKEN by the PEACOCK with an eye left": eleven, twelve and thirteen. */
    private static void eyes() {
        String law = "e9(p=2);e1(p=7);k0(1=1)";
        PeacockDesk eleven = desk(times("a1>2", 11) + ";b1;b1", law);
        eleven.days(1);
        due("eyes: eleven, the twelfth", eleven.peacockIs(2, 0), 0xfff);
        due("eyes: the thirteenth", eleven.peacockIs(7, 0), 0x1000);
        PeacockDesk twelve = desk(times("a1>2", 12) + ";b1;b1", law);
        twelve.days(1);
        due("eyes: twelve", twelve.peacockIs(2, 0), 0xfff);
        due("eyes: to another", twelve.peacockIs(7, 0), 0x3000);
        PeacockDesk alone = desk(times("a1>2", 12) + ";b1;b1", "e9(p=2);k0(1=1)");
        alone.days(3);
        due("eyes: no other would", alone.count(2), 0x3000);
        due("eyes: they wait", alone.caseIs(13, 5), 3);
        PeacockDesk hen = desk(times("a1>8", 11) + ";b1;b1", "e9(p=8);k0(1=1)");
        hen.days(1);
        due("eyes: the hen has twelve", hen.peacockIs(8, 0), 0xfff);
        due("eyes: one waits", hen.count(2), 0x1000);
        PeacockDesk both = desk(times("a1", 24), "e9(p=2);e1(p=7);k0(1=1)");
        both.days(1);
        due("eyes: twelve of 24", both.peacockIs(2, 0), 0xfff);
        due("eyes: the other twelve", both.peacockIs(7, 0), 0xfff000);
        // An eye that a cry made free is not filled till the next day.
        PeacockDesk cry = desk(times("a1>2", 12) + ";b1", "e9(p=2)");
        cry.days(1);
        due("eyes: one is DONE", cry.count(3), 1);
        due("eyes: one waits still", cry.count(2), 0x1000);
        cry.days(1);
        due("eyes: it is taken", cry.count(2), 0);
    }

    /** "THE HEN cries nothing, without a DRAW: those she has of 7 DAYS or more are DONE." */
    private static void hen() {
        int[] done = {0, 0, 0, 0, 0, 0, 0, 1, 1, 1};
        for (int waited = 0; waited < done.length; waited++) {
            PeacockDesk desk = desk("a1", "");
            if (waited > 0) desk.days(waited);
            desk.say(0, 8);
            due("hen: of " + waited + " DAYS", desk.days(1), done[waited]);
            due("hen: of " + waited + " DAYS, then", desk.caseIs(0, 5), waited + 1 - done[waited]);
            due("hen: no CRIES", desk.count(4), 0);
            due("hen: no DRAW", desk.count(7), behind(1, 8 * waited + 8));
        }
        PeacockDesk all = desk(times("a1>8", 12), "x(1=1);k0(1=1);h0(1=1)");
        due("hen: none in seven", all.days(7), 0);
        due("hen: all at once", all.days(1), 12);
        PeacockDesk taken = desk("a1", "e1(p=8&d>5)");
        due("hen: taken with 6 DAYS", taken.days(7), 0);
        due("hen: has it", taken.peacockIs(8, 0), 1);
        due("hen: DONE with 7", taken.days(1), 1);
    }

    /** "DAYS (how long it was not DONE)": they stop with DONE, stay by say, and go on. */
    private static void daysOfOne() {
        PeacockDesk desk = desk("a1>0;b1>0", "");
        desk.days(1);
        due("DAYS: DONE on the first", desk.caseIs(0, 5), 0);
        due("DAYS: not DONE", desk.caseIs(1, 5), 1);
        desk.days(1);
        due("DAYS: DONE on the second", desk.caseIs(1, 5), 1);
        desk.days(100);
        due("DAYS: they stay", desk.caseIs(1, 5), 1);
        due("DAYS: said again", truth(desk.say(1, 8)), 1);
        due("DAYS: they stay by say", desk.caseIs(1, 5), 1);
        due("DAYS: say again", truth(desk.say(1, 8)), 1);
        desk.days(2);
        due("DAYS: they go on", desk.caseIs(1, 5), 3);
        due("DAYS: of the other", desk.caseIs(0, 5), 0);
    }

    /** "DRAWS: X = (25173 X + 13849) modulo 65536 (X is THE SEED at first, 1): X modulo 10" */
    private static void draws() {
        for (int seed : new int[] {0, 1, 2, 32767, 32768, 65534, 65535}) {
            PeacockDesk desk = new PeacockDesk();
            due("draws: seed " + seed, truth(desk.seed(seed)), 1);
            due("draws: X of " + seed, desk.count(7), seed);
            desk.days(1);
            due("draws: eight of " + seed, desk.count(7), behind(seed, 8));
            desk.days(100);
            due("draws: 808 of " + seed, desk.count(7), behind(seed, 808));
        }
        for (int from = 0; from < 65536; from += 401) {
            PeacockDesk desk = desk("a1>7", "x(w=" + behind(from, 8) % 10 + "&p=7)");
            desk.seed(from);
            due("draws: the eighth of " + from, desk.tried(1, 2), 1);
            Bench.law(desk, "x(w=" + (behind(from, 8) + 1) % 10 + "&p=7)");
            due("draws: not the eighth of " + from, desk.tried(1, 3), 1);
        }
        // Two draws of each that cries, one of each other.
        PeacockDesk desk = desk("a1>0;b1>3;c1>7;d1>8", "x(p=3)");
        desk.days(1);
        due("draws: ten", desk.count(7), behind(1, 10));
        PeacockDesk second = desk("a1>0;b1>1", "h10(w=" + behind(1, 3) % 10 + "&p=1);h0(1=1)");
        due("draws: the third is the second peacock's", second.tried(1, 3), 2);
        PeacockDesk none = new PeacockDesk();
        none.days(1);
        due("draws: of a desk without complaints", none.count(7), behind(1, 8));
        due("draws: THE DAY of it", none.count(0), 1);
    }

    /** "t THE DAY modulo 100" */
    private static void dayModuloHundred() {
        due("t 99", desk("a1", "e1(p=1&t=99)").byWhen(0, 100), 100);
        due("t 98", desk("a1", "e1(p=1&t=98)").byWhen(0, 100), 99);
        due("t 100", desk("a1", "e1(p=1&t=100)").byWhen(0, 100), -2);
        PeacockDesk desk = desk("a1", "e1(p=1&t=0&d>0)");
        due("t 0 not again in 100", desk.byWhen(0, 100), -2);
        desk.days(100);
        due("t 0 again", desk.byWhen(0, 100), 1);
        Bench.law(desk, "e1(p=1&t=1)");
        due("t 1 again", desk.byWhen(0, 100), 2);
        Bench.law(desk, "e1(p=1&t>99)");
        due("t never above 99", desk.byWhen(0, 100), -2);
    }

    /** "THE DAY is one more (9999 at most: then none goes by)", "CRIES of each (how often; 9999 at most)" */
    private static void lastDay() {
        PeacockDesk desk = desk("a1>0;b2;c3>0", "h0(1=1)");
        for (int i = 0; i < 99; i++) desk.days(100);
        desk.days(98);
        due("last: 9998", desk.count(0), 9998);
        due("last: CRIES 9998", desk.heard(1), 9998);
        due("last: DAYS 9998", desk.caseIs(1, 5), 9998);
        due("last: one can be tried", desk.tried(1, 1), 1);
        due("last: one of two", desk.tried(2, 1), 1);
        due("last: one of a hundred", desk.tried(100, 1), 1);
        due("last: DAYS of a hundred", desk.tried(100, 31), 9999);
        Bench.law(desk, "h10(1=1)");
        due("last: by the last day", desk.byWhen(0, 1), 1);
        due("last: by the last of a hundred", desk.byWhen(0, 100), 1);
        due("last: no day for the other", desk.byWhen(2, 100), -2);
        due("last: not quiet", desk.allQuiet(100), -2);
        due("last: one is DONE in two", desk.tried(2, 0), 1);
        int x = desk.count(7);
        due("last: as many as can", desk.days(2), 1);
        due("last: 9999", desk.count(0), 9999);
        due("last: CRIES 9999", desk.peacockIs(0, 1), 9999);
        due("last: CRIES of all", desk.count(4), 9999);
        due("last: DAYS 9999", desk.caseIs(1, 5), 9999);
        due("last: draws of one day", desk.count(7), behind(x, 9));
        x = desk.count(7);
        due("last: none goes by", desk.days(1), 0);
        due("last: none of a hundred", desk.days(100), 0);
        due("last: 9999 still", desk.count(0), 9999);
        due("last: no draw", desk.count(7), x);
        due("last: no cry", desk.count(4), 9999);
        due("last: none is tried", desk.tried(100, 1), 0);
        due("last: none is DONE", desk.tried(100, 0), 0);
        due("last: not by then", desk.byWhen(2, 100), -2);
        due("last: it is", desk.byWhen(0, 100), 0);
        due("last: refused still", desk.days(101), NONE);
        due("last: KEPT", desk.keep(), 9999);
        due("last: a docket leaves it", Bench.docket(desk, "a1>0"), 1);
        due("last: THE DAY stays", desk.count(0), 9999);
        due("last: CRIES 0", desk.count(4), 0);
        due("last: no day for it", desk.days(1), 0);
        due("last: undone", truth(desk.undo()), 1);
        due("last: CRIES again", desk.count(4), 9999);
        due("last: the only one is DONE", desk.count(3), 1);
    }

    /** "DAYS (.. 9999 at most)": of a complaint beyond those that were KEPT they go on from THE DAY 0 again. */
    private static void mostDays() {
        PeacockDesk desk = new PeacockDesk();
        desk.keep();
        Bench.docket(desk, "a1;b2>1");
        Bench.law(desk, "h0(1=1)");
        for (int i = 0; i < 99; i++) desk.days(100);
        desk.days(97);
        due("most: 9997", desk.caseIs(0, 5), 9997);
        due("most: undone", truth(desk.undo()), 1);
        due("most: THE DAY 0", desk.count(0), 0);
        due("most: CRIES 0", desk.count(4), 0);
        due("most: they stay", desk.caseIs(0, 5), 9997);
        desk.days(1);
        due("most: 9998", desk.caseIs(0, 5), 9998);
        due("most: one is tried", desk.tried(1, 30), 9999);
        due("most: two are tried", desk.tried(2, 30), 9999);
        due("most: a hundred are tried", desk.tried(100, 31), 9999);
        desk.days(1);
        due("most: 9999", desk.caseIs(0, 5), 9999);
        desk.days(1);
        due("most: no more", desk.caseIs(0, 5), 9999);
        due("most: of the taken one", desk.caseIs(1, 5), 9999);
        due("most: THE DAY goes on", desk.count(0), 3);
        Bench.law(desk, "e1(p=4&d=9999)");
        due("most: d is 9999", desk.byWhen(0, 5), 1);
    }

    /** "DAYS (1 to 100; as many as can) go by: how many COMPLAINTS were DONE in them" */
    private static void asManyAsAsked() {
        int[] numbers = {1, 2, 99, 100};
        for (int n : numbers) {
            PeacockDesk desk = desk("a1", "h0(1=1)");
            desk.days(n);
            due("days(" + n + ")", desk.count(0), n);
            due("days(" + n + "): X", desk.count(7), behind(1, 8 * n));
            due("days(" + n + "): DAYS", desk.caseIs(0, 5), n);
        }
        PeacockDesk desk = desk(times("a1>0", 12) + ";" + times("b1>1", 12), "");
        due("days: none asked", desk.days(0), NONE);
        due("days: one of each", desk.days(1), 2);
        due("days: in them only", desk.days(2), 4);
        due("days: the rest", desk.days(100), 18);
        due("days: none is left", desk.days(100), 0);
        due("days: said again", truth(desk.say(23, 4)), 1);
        due("days: DONE again", desk.days(1), 1);
    }

    private static void triedThen() {
        PeacockDesk desk = desk(times("a1", 23) + ";p99!>7", "e1(p=4&c=0);h10(t>0);h0(1=1)");
        due("tried: WAITING then", desk.tried(1, 2), 0x7ffffe);
        due("tried: peacock 7", desk.tried(1, 17), 0x800000);
        due("tried: peacock 4", desk.tried(1, 14), 1);
        due("tried: peacock 0", desk.tried(1, 10), 0);
        due("tried: DONE then", desk.tried(2, 3), 0x800001);
        due("tried: DONE in one", desk.tried(1, 0), 0);
        due("tried: DONE in two", desk.tried(2, 0), 2);
        due("tried: CRIES in two", desk.tried(2, 1), 4);
        due("tried: DAYS of 23", desk.tried(2, 53), 1);
        due("tried: DAYS of 22", desk.tried(100, 52), 100);
        due("tried: DAYS of 0", desk.tried(99, 30), 1);
        desk.days(2);
        due("tried: DONE ahead are not in them", desk.tried(1, 0), 0);
        due("tried: CRIES ahead are not in them", desk.tried(1, 1), 0);
        due("tried: DONE then, those ahead, too", desk.tried(1, 3), 0x800001);
        for (int n : new int[] {1, 7, 100}) {
            PeacockDesk real = desk(times("a7>1;b5>2;c3;d1", 6), "e5-q(p<6);h4+u(w>1);x(w=9)");
            int done = real.tried(n, 0);
            int cries = real.tried(n, 1);
            int waiting = real.tried(n, 2);
            due("tried: as it comes, " + n, real.days(n), done);
            due("tried: CRIES as they come, " + n, real.count(4), cries);
            due("tried: WAITING as it comes, " + n, real.count(2), waiting);
        }
    }

    private static void byWhen() {
        PeacockDesk desk = desk("a1>0;b1>0;c1>0;d1>8;e1", "");
        int[] when = {1, 2, 3, 8, -2};
        for (int c = 0; c < when.length; c++) {
            due("byWhen(" + c + ", 100)", desk.byWhen(c, 100), when[c]);
            if (when[c] > 0) {
                due("byWhen: just then, " + c, desk.byWhen(c, when[c]), when[c]);
                due("byWhen: one later, " + c, desk.byWhen(c, when[c] + 1), when[c]);
                if (when[c] > 1) due("byWhen: one too few, " + c, desk.byWhen(c, when[c] - 1), -2);
            }
        }
        due("byWhen: at a hundred", desk("a1", "e1(p=1&d=99)").byWhen(0, 100), 100);
        due("byWhen: at 99", desk("a1", "e1(p=1&d=98)").byWhen(0, 100), 99);
        due("byWhen: at 101", desk("a1", "e1(p=1&d=100)").byWhen(0, 100), -2);
        desk.days(1);
        due("byWhen: it is", desk.byWhen(0, 1), 0);
        due("byWhen: it is, in a hundred", desk.byWhen(0, 100), 0);
        due("byWhen: it is, no such n", desk.byWhen(0, 101), NONE);
        desk.say(0, 8);
        due("byWhen: it is no more", desk.byWhen(0, 7), -2);
        due("byWhen: behind eight", desk.byWhen(0, 8), 8);
    }

    private static void quiet() {
        PeacockDesk desk = desk("a1>0;b1>0;c1>1", "");
        due("allQuiet: just then", desk.allQuiet(2), 2);
        due("allQuiet: one too few", desk.allQuiet(1), -2);
        due("allQuiet: one more", desk.allQuiet(3), 2);
        due("allQuiet: at a hundred", desk("a1", "e1(p=1&d=99)").allQuiet(100), 100);
        due("allQuiet: at 101", desk("a1", "e1(p=1&d=100)").allQuiet(100), -2);
        desk.days(2);
        due("allQuiet: they are", desk.allQuiet(1), 0);
        due("allQuiet: they are, no such n", desk.allQuiet(0), NONE);
        desk.say(1, 5);
        due("allQuiet: one is not", desk.allQuiet(1), 1);
        due("allQuiet: no docket", new PeacockDesk().allQuiet(1), 0);
    }

    private static void heardAndLongest() {
        PeacockDesk desk = desk(times("a1>7", 3) + ";b1>4;b1>4;c1>2", "");
        due("heard: none", 10 * desk.heard(0) + desk.heard(1), 0);
        desk.days(1);
        due("heard: one each", 10 * desk.heard(0) + desk.heard(1), 21);
        desk.days(1);
        due("heard: two each of two", 10 * desk.heard(0) + desk.heard(1), 42);
        desk.days(1);
        due("heard: three", 10 * desk.heard(0) + desk.heard(1), 73);
        desk.days(1);
        due("heard: it stays", 10 * desk.heard(0) + desk.heard(1), 73);
        due("heard: no more with another docket", Bench.docket(desk, "a1") + desk.heard(0) + desk.heard(1), 1);

        PeacockDesk three = desk("a1>0;b1;c1", "");
        due("longest: like ones", three.longest(), 0);
        three.days(1);
        due("longest: not DONE", three.longest(), 1);
        three.days(5);
        three.say(1, 0);
        three.days(1);
        due("longest: the next", three.longest(), 2);
        three.say(1, 5);
        due("longest: one day less", three.longest(), 2);
        three.say(2, 6);
        due("longest: taken ones, too", three.longest(), 2);
        three.days(1);
        due("longest: all are DONE", three.longest(), -2);
        three.say(0, 8);
        due("longest: DAYS 0", three.longest(), 0);
    }

    private static void subjectsAndNumbers() {
        PeacockDesk desk = desk("a99>0;p98;p1!>0;o5;b7", "");
        int[][] subjects = {{0, 1, 99}, {1, 1, 7}, {2, 0, 0}, {14, 1, 5}, {15, 2, 99}};
        for (int[] s : subjects) {
            due("ofSubject(" + s[0] + ", 0)", desk.ofSubject(s[0], 0), s[1]);
            due("ofSubject(" + s[0] + ", 1)", desk.ofSubject(s[0], 1), s[2]);
        }
        desk.days(1);
        due("ofSubject: DONE, how many", desk.ofSubject(0, 0), 1);
        due("ofSubject: DONE, WEIGHTS", desk.ofSubject(0, 1), 0);
        due("ofSubject: heaviest", desk(times("c99", 24), "").ofSubject(2, 1), 24 * 99);
        due("numbers: all alike", desk(times("c99", 24), "").numbers(1), 276);
        due("numbers: 23 alike", desk(times("c99", 23) + ";d1", "").numbers(1), 253);
        due("numbers: one", desk("c99", "").numbers(1), 0);
        due("numbers: two", desk("c99;c1", "").numbers(1), 1);
        due("numbers: two unlike", desk("c99;d99", "").numbers(1), 0);
        String each = "a1>0;a1>1;a1>2;a1>3;a1>4;a1>5;a1>6;a1>7";
        due("numbers: SPREAD without the hen's", desk(each, "").numbers(0), 1);
        due("numbers: SPREAD of one each", desk(each + ";a1>8", "").numbers(0), 0);
        due("numbers: SPREAD of the hen", desk(each + ";a1>8;a1>8;a1>8", "").numbers(0), 2);
        due("numbers: SPREAD of twelve", desk(times("a1>5", 12), "").numbers(0), 12);
        due("numbers: SPREAD of none taken", desk(times("a1", 24), "").numbers(0), 0);
        for (int p = 0; p <= 8; p++) {
            StringBuilder others = new StringBuilder();
            for (int other = 0; other <= 8; other++) {
                if (other != p) others.append(";a1>").append(other);
            }
            due("numbers: SPREAD, all but " + p, desk(others.substring(1), "").numbers(0), 1);
            due("numbers: SPREAD, " + p + " alone", desk("a1>" + p, "").numbers(0), 1);
            due("numbers: SPREAD, " + p + " most, none has none", desk("a1>" + p + ";a1>" + p + others, "").numbers(0), 1);
        }
        PeacockDesk gone = desk("a1>0;b1>0", "");
        gone.days(1);
        due("numbers: SPREAD without DONE ones", gone.numbers(0), 1);
    }

    // ---- KEPT, UNDONE, CHECK

    private static void kept() {
        PeacockDesk desk = desk("a1>0;b2>0;c3", "");
        due("keep: THE DAY 0", desk.keep(), 0);
        desk.days(1);
        due("keep: THE DAY 1", desk.keep(), 1);
        int x = desk.count(7);
        desk.days(3);
        desk.say(0, 5);
        desk.seed(12345);
        Bench.law(desk, "h0(1=1)");
        Bench.feed(desk, 1, 2, 3);
        due("undo", truth(desk.undo()), 1);
        int[] counts = {1, 3, 4, 1, 1, 1, 20, x};
        for (int what = 0; what <= 7; what++) {
            due("undo: as KEPT last, count(" + what + ")", desk.count(what), counts[what]);
        }
        due("undo: DAYS of a DONE one", desk.caseIs(0, 5), 0);
        due("undo: DAYS", desk.caseIs(1, 5), 1);
        due("undo: by whom", desk.caseIs(1, 4), 0);
        due("undo: twice", truth(desk.undo()), 1);
        due("undo: as it is", desk.count(0), 1);
        desk.days(2);
        due("undo: CRIES by the law that is now", desk.count(4), 3);
        due("undo: and back", truth(desk.undo()), 1);
        due("undo: CRIES", desk.count(4), 1);
        PeacockDesk none = new PeacockDesk();
        due("undo: none KEPT", truth(none.undo()), 0);
        due("keep of a new one", none.keep(), 0);
        due("undo of a new one", truth(none.undo()), 1);
        PeacockDesk seeded = new PeacockDesk();
        seeded.seed(65535);
        seeded.keep();
        seeded.seed(0);
        seeded.undo();
        due("undo: X of the seed", seeded.count(7), 65535);
    }

    /** "of as many COMPLAINTS as there were then and are now, with their DAYS; those beyond stay as they are" */
    private static void keptOfOthers() {
        for (int then = 1; then <= 4; then++) {
            for (int are = 1; are <= 4; are++) {
                PeacockDesk desk = desk(times("a1>3", then), "h0(1=1)");
                desk.days(2);
                desk.keep();
                Bench.docket(desk, times("b9>5", are));
                desk.days(5);
                desk.undo();
                String name = then + " then, " + are + " now: ";
                due(name + "how many", desk.count(1), are);
                due(name + "THE DAY", desk.count(0), 2);
                due(name + "CRIES", desk.peacockIs(3, 1), 2);
                due(name + "CRIES of the docket that is now", desk.peacockIs(5, 1), 0);
                for (int c = 0; c < are; c++) {
                    due(name + "by whom " + c, desk.caseIs(c, 4), c < then ? 3 : 5);
                    due(name + "DAYS " + c, desk.caseIs(c, 5), c < then ? 2 : 5);
                    due(name + "WEIGHT " + c, desk.caseIs(c, 1), 9);
                    due(name + "SUBJECT " + c, desk.caseIs(c, 0), 1);
                }
                int both = Math.min(then, are);
                due(name + "has", desk.peacockIs(3, 0), (1 << both) - 1);
                due(name + "those beyond", desk.peacockIs(5, 0), (1 << are) - (1 << both));
            }
        }
        // Those beyond may be DONE or WAITING, too.
        PeacockDesk desk = desk("a1>0", "");
        desk.keep();
        Bench.docket(desk, "b1;c1>0;d1");
        desk.days(1);
        desk.undo();
        due("undo: TAKEN as then", desk.caseIs(0, 4), 0);
        due("undo: a DONE one beyond", desk.caseIs(1, 3), 2);
        due("undo: a WAITING one beyond", desk.caseIs(2, 3), 0);
        due("undo: its DAYS", desk.caseIs(2, 5), 1);
        due("undo: DONE ones", desk.count(3), 2);
        // KEPT without a docket: all stay, CRIES and THE DAY go back.
        PeacockDesk none = new PeacockDesk();
        none.keep();
        Bench.docket(none, "b1>0;c1");
        none.days(1);
        none.undo();
        due("undo: none were then", none.caseIs(0, 3), 2);
        due("undo: CRIES of none", none.count(4), 0);
        due("undo: THE DAY of none", none.count(0), 0);
        due("undo: DAYS of none", none.caseIs(1, 5), 1);
    }

    /** "a PEACOCK may have more than 12 then": thirteen. */
    private static void moreThanTwelve() {
        PeacockDesk desk = desk(times("a1>6", 12), "");
        desk.keep();
        Bench.docket(desk, times("a1", 12) + ";b5>6;c1");
        Bench.law(desk, "e1(p=6);e0(1=1);k0(1=1)");
        due("thirteen: undo", truth(desk.undo()), 1);
        due("thirteen", desk.peacockIs(6, 0), 0x1fff);
        due("thirteen: WEIGHTS", desk.peacockIs(6, 2), 17);
        due("thirteen: SPREAD", desk.numbers(0), 13);
        due("thirteen: none is said into it", truth(desk.say(13, 6)), 0);
        due("thirteen: none is taken", desk.tried(1, 2), 0x2000);
        due("thirteen: one away", truth(desk.say(0, 1)), 1);
        due("twelve: none is said into it", truth(desk.say(13, 6)), 0);
        due("twelve: none is taken", desk.tried(1, 2), 0x2000);
        due("twelve: one away", truth(desk.say(1, 1)), 1);
        due("eleven: one is taken", desk.tried(1, 2), 0);
        due("eleven: one is said into it", truth(desk.say(13, 6)), 1);
        Bench.law(desk, "k1(q=13);k0(1=1)");
        desk.undo();
        due("q is 13", desk.tried(1, 1), 0);
        desk.say(13, 3);
        due("q of undone ones", desk.peacockIs(6, 0), 0x1fff);
        due("q is 13, it cries", desk.tried(1, 1), 1);
        Bench.law(desk, "x(q=13)");
        due("thirteen moult", desk.tried(1, 2), 0x1fff);
    }

    private static int check(PeacockDesk desk, int n, int... bytes) {
        Bench.feed(desk, bytes);
        return desk.check(n);
    }

    /** "CHECK: WEIGHTS of COMPLAINTS that are not DONE (DONE ones 0)"; "of COMPLAINTS there are not 255" */
    private static void checked() {
        PeacockDesk desk = desk("a99>0;b0;c5;d98>8", "");
        due("check: all", check(desk, 4, 99, 0, 5, 98), NONE);
        due("check: one below", check(desk, 4, 98, 0, 5, 98), 0);
        due("check: one above", check(desk, 4, 100, 0, 5, 98), 0);
        due("check: 0 and 1", check(desk, 4, 99, 1, 5, 98), 1);
        due("check: the first of two", check(desk, 4, 99, 0, 6, 99), 2);
        due("check: the last", check(desk, 4, 99, 0, 5, 97), 3);
        due("check: of three", check(desk, 3, 99, 0, 5, 97), NONE);
        due("check: one that is not", check(desk, 5, 99, 0, 5, 98, 255), NONE);
        due("check: one that is not, 254", check(desk, 5, 99, 0, 5, 98, 254), 4);
        due("check: one that is not, 0", check(desk, 5, 99, 0, 5, 98, 0), 4);
        due("check: 255 for one that is", check(desk, 4, 255, 0, 5, 98), 0);
        due("check: none", check(desk, 0, 7), NONE);
        due("check: none, empty then", desk.count(6), 0);
        due("check: none of an empty tape", desk.check(0), NONE);
        desk.days(1);
        due("check: a DONE one", check(desk, 4, 0, 0, 5, 98), NONE);
        due("check: a DONE one, its WEIGHT", check(desk, 4, 99, 0, 5, 98), 0);
        desk.say(0, 1);
        due("check: TAKEN again", check(desk, 4, 99, 0, 5, 98), NONE);
        int[] full = new int[24];
        java.util.Arrays.fill(full, 7);
        PeacockDesk all = desk(times("a7", 24), "");
        due("check: 24", check(all, 24, full), NONE);
        full[23] = 8;
        due("check: the 24th", check(all, 24, full), 23);
        due("check: 23", check(all, 23, full), NONE);
        Bench.feed(all, full);
        due("check: 25", all.check(25), -2);
        due("check: 25, the tape stays", all.count(6), 40);
        due("check: -1", all.check(-1), -2);
        due("check: then", all.check(24), 23);
        due("check: it has not so many", all.check(1), -2);
        int[] none = new int[24];
        java.util.Arrays.fill(none, 255);
        due("check: no docket", check(new PeacockDesk(), 24, none), NONE);
        none[0] = 0;
        due("check: no docket, 0", check(new PeacockDesk(), 1, none), 0);
    }

    private static void counted() {
        PeacockDesk desk = new PeacockDesk();
        int[] first = {0, 0, 0, 0, 0, 0, 0, 1};
        for (int what = 0; what <= 7; what++) {
            due("count(" + what + ") of a new one", desk.count(what), first[what]);
        }
        Bench.docket(desk, times("a1", 23) + ";p99>4");
        due("count: all but the last wait", desk.count(2), 0x7fffff);
        desk.days(1);
        due("count: the last is DONE", desk.count(3), 0x800000);
        due("count: it cried", desk.count(4), 1);
        due("count: THE DAY", desk.count(0), 1);
        due("count: COMPLAINTS", desk.count(1), 24);
        desk.feed(0, 0, 0, 0, 0);
        due("count: the tape", desk.count(6), 20);
        PeacockDesk fresh = new PeacockDesk();
        due("a new one is of its own", fresh.count(1) + fresh.count(6), 0);
        due("a new one takes nothing", fresh.days(1), 0);
    }
}
