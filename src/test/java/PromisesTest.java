/**
 * The promises 1 to 30, one method each, by answers that were reckoned by hand.
 * The first draws of the seed 1 are 2 7 6 5 2 9 6 7 2 9 6 1 0 9 4 3.
 */
public final class PromisesTest {
    private static final int NONE = PeacockDesk.NONE;

    public static void main(String[] args) {
        newObject();
        saying();
        feeding();
        lawRead();
        lawFaults();
        lawDepth();
        lawAsked();
        docketRead();
        docketFaults();
        ballotsCounted();
        ballotFaults();
        daysGoBy();
        daysMoult();
        daysHen();
        daysEnd();
        daysTried();
        casesLookedAt();
        peacocksLookedAt();
        byWhenDone();
        quiet();
        heardMost();
        longestOpen();
        subjects();
        spreadAndAlike();
        fairShares();
        seatsShared();
        powerCounted();
        quillsRight();
        weekdays();
        daysOfWork();
        cries();
        feathers();
        tailsTogether();
        seeds();
        keptAndUndone();
        checked();
        counted();
        refusedTape();
        Bench.end("PromisesTest");
    }

    private static void due(String call, long got, long want) {
        Bench.due(call, got, want);
    }

    private static void due(String call, boolean got, boolean want) {
        Bench.due(call, got, want);
    }

    private static PeacockDesk desk(String docket, String law) {
        PeacockDesk desk = new PeacockDesk();
        if (!docket.isEmpty()) {
            due("docket " + docket, Bench.docket(desk, docket), docket.split(";").length);
        }
        if (!law.isEmpty()) {
            due("law " + law, Bench.law(desk, law), law.split(";").length);
        }
        return desk;
    }

    private static String times(String line, int many) {
        StringBuilder text = new StringBuilder(line);
        for (int i = 1; i < many; i++) {
            text.append(';').append(line);
        }
        return text.toString();
    }

    // ---- 1
    private static void newObject() {
        PeacockDesk desk = new PeacockDesk();
        int[] start = {0, 0, 0, 0, 0, 0, 0, 1};
        for (int what = 0; what < start.length; what++) {
            due("new: count(" + what + ")", desk.count(what), start[what]);
        }
        due("new: undo()", desk.undo(), false);
        due("new: caseIs(0, 0)", desk.caseIs(0, 0), NONE);
        due("new: NONE", PeacockDesk.NONE, -1);
    }

    // ---- 2
    private static void saying() {
        PeacockDesk desk = desk("a5;b6>3", "");
        due("say: waiting", desk.say(0, 3), true);
        due("say: has", desk.peacockIs(3, 0), 3);
        due("say: to another", desk.say(1, 8), true);
        due("say: has less", desk.peacockIs(3, 0), 1);
        due("say: to the hen", desk.caseIs(1, 4), 8);
        due("say: by that one, too", desk.say(1, 8), true);
        due("say: no case", desk.say(2, 0), false);
        due("say: no case below", desk.say(-1, 0), false);
        due("say: no peacock", desk.say(0, 9), false);
        due("say: no peacock below", desk.say(0, -1), false);
        due("say: refused changes nothing", desk.peacockIs(3, 0), 1);
        desk.days(2);
        due("say: done", desk.caseIs(0, 3), 2);
        due("say: days before", desk.caseIs(1, 5), 2);
        due("say: one that was done", desk.say(0, 1), true);
        due("say: taken again", desk.caseIs(0, 3), 1);
        due("say: days stay", desk.say(1, 2) ? desk.caseIs(1, 5) : -9, 2);

        PeacockDesk full = desk(times("a1>4", 12) + ";b2", "");
        due("say: no eye left", full.say(12, 4), false);
        due("say: no eye left for its own", full.say(0, 4), false);
        due("say: stays waiting", full.caseIs(12, 3), 0);
        due("say: one away", full.say(0, 5), true);
        due("say: now an eye is left", full.say(12, 4), true);
        due("say: full again", full.say(0, 4), false);
    }

    // ---- 3
    private static void feeding() {
        PeacockDesk desk = new PeacockDesk();
        for (int i = 1; i <= 13; i++) {
            due("feed " + i, desk.feed(0, 0, 0, 0, 0), 20 * i);
        }
        due("feed: 280 are too many", desk.feed(0, 0, 0, 0, 0), NONE);
        due("feed: the tape stays", desk.count(6), 260);
        due("feed: emptied by check", desk.check(0), NONE);
        due("feed: empty", desk.count(6), 0);
        // Votes 1, 2 | 255, 0: the highest byte comes first, none is below 0.
        due("feed: again", desk.feed(0x0102ff00, -1, 0, 0, 0), 20);
        due("feed: bytes in order", desk.seats(4, 43, true, 2), 43);
        desk.feed(0x03000000, 0, 0, 0, 0x00000009);
        due("feed: a first", desk.seats(2, 1, false, 0), 1);
        desk.feed(0, 0, 0, 0, 0);
        desk.feed(0x80ffffff, -1, -1, -1, -1);
        due("feed: the first bytes are taken", desk.check(1), 0);
    }

    // ---- 4
    private static void lawRead() {
        PeacockDesk desk = new PeacockDesk();
        due("law: one", Bench.law(desk, "e1(1=1)"), 1);
        due("law: all kinds", Bench.law(desk, "e1(1=1);k2(1=1);h3(1=1);x(1=1)"), 4);
        due("law: sixteen", Bench.law(desk, times("x(1=1)", 16)), 16);
        due("law: count", desk.count(5), 16);
        due("law: all letters", Bench.law(desk, "ep+c+s+v+u+d+q+r+t+w(p=c)"), 1);
        due("law: all signs", Bench.law(desk, "e[1+2-3]*4/5%6(!(1<2&3>4|5=6)&!!7=7)"), 1);
        due("law: five digits", Bench.law(desk, "k99999(00000=0)"), 1);
        String longest = "e1" + "+11111".repeat(38) + "+p(p=p)";
        due("law: 237 bytes", longest.length(), 237);
        due("law: long", Bench.law(desk, longest), 1);
        due("law: 240 bytes", Bench.law(desk, "e1+1" + longest.substring(2).replace("(p=p)", "(p<12)")), 1);
        Bench.feed(desk, new int[250]);
        due("law: no n", desk.law(0), NONE);
        due("law: no n below", desk.law(-5), NONE);
        due("law: no n above", desk.law(241), NONE);
        due("law: the tape stays", desk.count(6), 260);
        due("law: the law stays", desk.count(5), 1);
        due("law: a fault empties the tape", desk.law(240), -1000);
        due("law: empty", desk.count(6), 0);
        due("law: none on the tape", desk.law(1), NONE);
        Bench.feed(desk, Bench.bytes("e1(1=1);e1(1=1)"));
        due("law: not so many", desk.law(21), NONE);
        due("law: the first bytes", desk.law(7), 1);
    }

    private static void lawFaults() {
        PeacockDesk desk = new PeacockDesk();
        Bench.law(desk, "e1(1=1);h2(1=1)");
        String[] texts = {"z", ";", "1", " e1(1=1)", "E1(1=1)", "e", "e(1=1)", "e1", "e1(", "e1()", "e1(1", "e1(1=", "e1(1=1",
            "e1(1=1);", "e1(1=1);;", "e1(1=1)e", "e1(1=1) ", "x1(1=1)", "xp(1=1)", "x", "x()", "e1+(1=1)", "e+1(1=1)", "e-1(1=1)",
            "e1++1(1=1)", "e1*(1=1)", "e[1(1=1)", "e[](1=1)", "e1](1=1)", "ea(1=1)", "ee(1=1)", "ew9(1=1)", "e9w(1=1)", "e1(1==1)",
            "e1(1<>1)", "e1(1=1&)", "e1(1=1|)", "e1(&1=1)", "e1(1=1=1)", "e1(!)", "e1(1=!1)", "e1(1)", "e1((1=1)", "e1((1)=1)",
            "e1(1=1!)", "e1((1=1)1)", "e1((1=1)+1=2)", "e1(1=(1=1))", "e1(1=1))", "e1([1=1])", "e[(1=1)](1=1)"};
        int[] places = {0, 0, 0, 0, 0, 1, 1, 2, 3, 3, 4, 5, 6,
            8, 8, 7, 7, 1, 1, 1, 2, 3, 1, 1,
            3, 3, 3, 2, 2, 1, 1, 2, 2, 5,
            5, 7, 7, 3, 6, 4, 5, 4, 8, 5,
            6, 8, 8, 5, 7, 5, 2};
        for (int i = 0; i < texts.length; i++) {
            due("law fault 1: " + texts[i], Bench.law(desk, texts[i]), -1000 - places[i]);
        }
        due("law fault 2: value", Bench.law(desk, "e123456(1=1)"), -2006);
        due("law fault 2: zeros", Bench.law(desk, "e1(000000=1)"), -2008);
        due("law fault 2: ahead of a later fault", Bench.law(desk, "e1(1=1);k111111z"), -2014);
        due("law fault 1: ahead of a later digit", Bench.law(desk, "e1(1=1)z111111"), -1007);
        due("law fault 4", Bench.law(desk, times("x(1=1)", 17)), -4112);
        due("law fault 4: the letter alone", Bench.law(desk, times("x(1=1)", 16) + ";k"), -4112);
        due("law fault 1: no 17th letter", Bench.law(desk, times("x(1=1)", 16) + ";p1(1=1)"), -1112);
        due("law fault 1: the end", Bench.law(desk, times("x(1=1)", 16) + ";"), -1112);
        due("law: the one before stays", desk.count(5), 2);
    }

    private static void lawDepth() {
        PeacockDesk desk = new PeacockDesk();
        due("law depth: six [ of a value", Bench.law(desk, "e[[[[[[1]]]]]](1=1)"), 1);
        due("law depth: seven", Bench.law(desk, "e[[[[[[[1]]]]]]](1=1)"), -5007);
        due("law depth: six (", Bench.law(desk, "x((((((1=1))))))"), 1);
        due("law depth: seven (", Bench.law(desk, "x(((((((1=1)))))))"), -5007);
        due("law depth: six with !", Bench.law(desk, "x(!!!!!1=1)"), 1);
        due("law depth: seven with !", Bench.law(desk, "x(!!!!!!1=1)"), -5007);
        due("law depth: six with [", Bench.law(desk, "x([[[[[1]]]]]=1)"), 1);
        due("law depth: seven with [", Bench.law(desk, "x([[[[[[1]]]]]]=1)"), -5007);
        due("law depth: mixed", Bench.law(desk, "x(!(!(![1]=1)))"), -5007);
        due("law depth: mixed, six", Bench.law(desk, "x(!(!(1=[1]|!1=1)))"), 1);
        due("law depth: a ! ends with its test", Bench.law(desk, "x(!1=1&!1=1&!1=1&!1=1&!1=1&!1=1|!1=1)"), 1);
        due("law depth: a ! ends with its (", Bench.law(desk, "x(!(1=1)&!(1=1)&!(1=1)&!(!(![1]=1)))"), -5028);
        due("law depth: ] closes", Bench.law(desk, "e[1]+[1]+[1]+[1]+[1]+[1]+[1](1=1)"), 1);
        due("law depth: the seventh must stand there", Bench.law(desk, "x((((((1(1=1)"), -1008);
        due("law depth: ) in its place", Bench.law(desk, "x(((((()"), -1007);
    }

    /** What a rule is worth, by which of two peacocks takes a complaint. */
    private static void lawAsked() {
        String[] hold = {"1+2*3=7", "[1+2]*3=9", "7-2-1=4", "100/7/2=7", "100/[7/2]=33", "17%5%2=0", "2*7%4=2", "7/2*2=6",
            "0-7/2=0-3", "[0-7]/2=0-3", "[0-7]%3=0-1", "99999*99999=14098*10000*10+65409", "99999*30000<0", "99999*99999>0",
            "1=1|1/0=1", "!(1=2&1/0=1)", "1=2&1/0=1|1=1", "!1=2", "!!1=1", "!1=1|1=1", "1=1&(1=2|1=1)", "1=1|1=2&1=2",
            "p=0", "c=1", "s=2", "v=34", "u=1", "d=0", "q=1", "r=0", "t=0", "w=0", "1<2", "2>1", "2=2", "!1<1", "!1>1",
            "!(p=0&c=2|s=3)", "!!(!p=1&!c=2)", "1=2|1=2|1=1", "1=2&1/0=1&1/0=1|2=2"};
        for (String test : hold) {
            // Complaint 1 is taken by peacock 0 if the test holds there, else by the hen.
            PeacockDesk desk = desk("a1>0;c34!", "e5(p=0&c=1&(" + test + "));e3(p=8)");
            due("law holds: " + test, desk.tried(1, 18), 0);
        }
        String[] fail = {"1=2", "1/0=0", "1%0=0", "1=1&1/0=0", "!1/0=0", "!(1=1&1%0=1)", "1/0=1|1=1", "[1/[1-1]]*0=0", "1<1", "1>1",
            "!1=1", "1=2&1=1|1=2", "p=1", "c=0", "s=16", "t=1", "w=2", "w>0", "1=1&!(1=1)", "0-99999*30000<0"};
        for (String test : fail) {
            PeacockDesk desk = desk("a1>0;c34!", "e5(p=0&c=1&(" + test + "));e3(p=8)");
            due("law fails: " + test, desk.tried(1, 18), 2);
        }
        // Of e the first rule that holds; a value divided by 0 is 0; bounds.
        due("e: first that holds", whoCries("a1", "e1(p=1);e9(p=1);e5(p=2)"), 2);
        due("e: divided by 0", whoCries("a1", "e1/0(p=1);e9(p=1);e5(p=2)"), 2);
        due("e: 9999 at most", whoCries("a1", "e9999(p=1);e99999(p=3)"), 1);
        due("e: below 0", desk("a1", "e0-5(1=1)").tried(1, 2), 1);
        due("e: 32 bits", desk("a1", "e99999*30000(1=1)").tried(1, 2), 1);
        due("e: none holds", desk("a1", "e5(1=2)").tried(1, 2), 1);
        due("e: the hen too", desk("a1", "ep(1=1)").tried(1, 18), 1);
        due("e: of like ones the lowest", whoCries("a1", "e7(1=1)"), 0);
        String six = "1+1*[1+1*[1+1*[1+1*[1+1*[1+1*[1+1*p]]]]]]";
        due("e: six deep, two values each", desk("a1", "e" + six + "-14(p<3|p=8)").tried(1, 18), 1);
        due("e: six deep, no less", desk("a1", "e" + six + "-15(p<3|p=8)").tried(1, 2), 1);
        String five = "1+1*[1+1*[1+1*[1+1*[1+1*[1+1*p]]]]]";
        due("C: five deep on both hands", desk("a1", "e1(" + five + "=" + five + "&" + five + "=14)").tried(1, 18), 1);
        due("e: as it is then", whoCries("a1;b1", "e5-q(p<2)"), 0);
        due("e: the second", desk("a1;b1", "e5-q(p<2);h0(1=1)").tried(1, 11), 2);
        due("k: none: 1", desk("a1>0", "k5(c=9)").tried(1, 1), 1);
        due("k: 0", desk("a1>0", "k0(1=1)").tried(1, 1), 0);
        due("k: divided by 0", desk("a1>0", "k1/0(1=1)").tried(1, 1), 0);
        due("k: the most", desk("a1>0;b7>0;c7>0", "kv(1=1)").tried(1, 3), 2);
        due("k: 9999 at most", desk("a1>0;b7>0", "k9999+c(1=1)").tried(1, 3), 1);
        due("k: the draw", desk("a1>0;b7>0", "kc(w=2);k1(c=0)").tried(1, 3), 2);
        due("h: none: 10", desk("a1>0", "h0(c=9)").tried(1, 3), 1);
        due("h: 7 is not above the draw", desk("a1>0", "h7(1=1)").tried(1, 3), 0);
        due("h: 8 is", desk("a1>0", "h8(1=1)").tried(1, 3), 1);
        due("h: 10 at most", desk("a1>0", "h99999(1=1)").tried(1, 3), 1);
        PeacockDesk nine = desk("a1>0", "h10(1=1)");
        // The draws behind 3882 are 9 (21259) and 6; those behind the X ahead of it are 2 and 9.
        nine.seed(45005);
        due("h: 10 is above each draw", nine.tried(1, 3), 1);
        Bench.law(nine, "h9(1=1)");
        due("h: 9 is not above a 9", nine.tried(1, 3), 0);
        due("h: below 0", desk("a1>0", "h0-9(1=1)").tried(1, 3), 0);
        due("h: divided by 0", desk("a1>0", "h1%0(1=1)").tried(1, 3), 0);
        due("h: ahead of the cry", desk("a1>0", "h10(r=0&q=1&w=2);h0(1=1)").tried(1, 3), 1);
        due("x: any will do", desk("a1>0", "x(1/0=1);x(p=5);x(p=0)").tried(1, 2), 1);
        due("x: facts", desk("p9!>0", "x(c=24&s=16&v=0&u=0&d=0&q=1&r=0&t=0&w=2)").tried(1, 2), 1);
        due("x: facts behind those of others", desk("p9!;p9!>3", "e1(p=3);x(u=0&v=0&d=0&c=24&s=16&p=3)").tried(1, 2), 3);
        due("t: modulo 100", tOfDay(100), 1);
    }

    /** The peacock that takes the first complaint and cries it on the first day. */
    private static int whoCries(String docket, String law) {
        PeacockDesk desk = desk(docket, law);
        desk.days(1);
        return desk.heard(0);
    }

    private static int tOfDay(int days) {
        PeacockDesk desk = desk("a1", "e1(t=1)");
        desk.days(1);
        due("t: not yet", desk.count(2), 1);
        PeacockDesk later = desk("a1", "e1(d=" + days + "&t=0)");
        later.days(100);
        due("t: waiting", later.count(2), 1);
        later.days(1);
        return later.count(3);
    }

    // ---- 5
    private static void docketRead() {
        PeacockDesk desk = new PeacockDesk();
        due("docket: one", Bench.docket(desk, "a5"), 1);
        due("docket: four", Bench.docket(desk, "a0;p99!;c07>8;d1!>0"), 4);
        int[][] is = {{0, 0, 0, 0, -2}, {15, 99, 1, 0, -2}, {2, 7, 0, 1, 8}, {3, 1, 1, 1, 0}};
        for (int c = 0; c < 4; c++) {
            for (int what = 0; what < 5; what++) {
                due("docket: caseIs(" + c + ", " + what + ")", desk.caseIs(c, what), is[c][what]);
            }
        }
        due("docket: 24", Bench.docket(desk, times("b12>1", 12) + ";" + times("c3!>8", 12)), 24);
        due("docket: 12 eyes", desk.peacockIs(1, 0), 4095);
        desk.days(9);
        due("docket: in place of all ahead", Bench.docket(desk, "a1>1;b2"), 2);
        due("docket: THE DAY stays", desk.count(0), 9);
        due("docket: CRIES", desk.count(4), 0);
        due("docket: DAYS", desk.caseIs(0, 5), 0);
        due("docket: none DONE", desk.count(3), 0);
        due("docket: WAITING", desk.count(2), 2);
        Bench.feed(desk, new int[170]);
        due("docket: no n", desk.docket(0), NONE);
        due("docket: no n above", desk.docket(161), NONE);
        due("docket: the tape stays", desk.count(6), 180);
        due("docket: 160 bytes are read", desk.docket(160), -1000);
        due("docket: not so many", desk.docket(1), NONE);
        due("docket: empty", desk.count(6), 0);
    }

    private static void docketFaults() {
        PeacockDesk desk = desk("a1>1;b2", "");
        desk.days(1);
        int x = desk.count(7);
        String[] texts = {"q1", ";", "1", " a1", "A1", "a", "a!", "a;", "a1;", "a1;;", "a1b", "a1 ", "a1!!", "a1>", "a1>9", "a1>a", "a1>11", "a1>1!",
            "a1!>", "a1>;", "a1;b", "a1-"};
        int[] places = {0, 0, 0, 0, 0, 1, 1, 1, 3, 3, 2, 2, 3, 3, 3, 3, 4, 4, 4, 3, 4, 2};
        for (int i = 0; i < texts.length; i++) {
            due("docket fault 1: " + texts[i], Bench.docket(desk, texts[i]), -1000 - places[i]);
        }
        due("docket fault 2", Bench.docket(desk, "a123"), -2003);
        due("docket fault 2: a nine", Bench.docket(desk, "a119"), -2003);
        due("docket fault 2: zeros", Bench.docket(desk, "a1;b000"), -2006);
        due("docket fault 4", Bench.docket(desk, times("a1", 25)), -4072);
        due("docket fault 4: the letter alone", Bench.docket(desk, times("a1", 24) + ";p"), -4072);
        due("docket fault 1: no 25th letter", Bench.docket(desk, times("a1", 24) + ";q"), -1072);
        due("docket fault 1: the end", Bench.docket(desk, times("a1", 24) + ";"), -1072);
        due("docket fault 6", Bench.docket(desk, times("a1>8", 13)), -6063);
        due("docket fault 6: others between", Bench.docket(desk, times("a1>2", 12) + ";a1;a1>2"), -6066);
        due("docket fault 6: ahead of a later fault", Bench.docket(desk, times("a1>8", 13) + "x"), -6063);
        due("docket: all stays", desk.count(1), 2);
        due("docket: all stays, done", desk.count(3), 1);
        due("docket: all stays, X", desk.count(7), x);
    }

    // ---- 6
    private static void ballotsCounted() {
        PeacockDesk desk = new PeacockDesk();
        // 3 abc, 2 bca, 2 cba: first places 3 2 2; points 6, 3+4+2 = 9, 2+4 = 6.
        String text = "3abc;2bca;2cba";
        int[] answers = {7, 0, 1, 1, 1};
        for (int what = 100; what <= 104; what++) {
            due("ballots: " + what, Bench.ballots(desk, 3, text, what), answers[what - 100]);
        }
        due("ballots: points a", Bench.ballots(desk, 3, text, 0), 6);
        due("ballots: points b", Bench.ballots(desk, 3, text, 1), 9);
        due("ballots: points c", Bench.ballots(desk, 3, text, 2), 6);
        due("ballots: a ring", Bench.ballots(desk, 3, "abc;bca;cab", 103), -2);
        due("ballots: like first places", Bench.ballots(desk, 3, "cab;bca", 101), 1);
        due("ballots: like points", Bench.ballots(desk, 3, "cba;abc", 102), 0);
        due("ballots: half is not more", Bench.ballots(desk, 2, "2ab;2ba", 103), -2);
        due("ballots: like in rounds", Bench.ballots(desk, 2, "2ab;2ba", 104), 0);
        // b 4, d 3, c 2, a 0: a is out, then c (to d: 5), then b.
        due("ballots: rounds go on", Bench.ballots(desk, 4, "4bacd;3dabc;2cdab", 104), 3);
        due("ballots: of like ones the highest letter", Bench.ballots(desk, 3, "2abc;bca;cab", 104), 0);
        due("ballots: six", Bench.ballots(desk, 6, "99fedcba;abcdef", 5), 495);
        due("ballots: ten", Bench.ballots(desk, 2, "10ab;02ba", 100), 12);
        due("ballots: twelve", Bench.ballots(desk, 2, times("99ba", 12), 100), 1188);
        due("ballots: 120 bytes, 13 lines", Bench.ballots(desk, 6, times("11abcdef", 13), 100), -4108);
        Bench.feed(desk, Bench.bytes(times("ab", 12)));
        due("ballots: no ministers", desk.ballots(1, 2, 0), NONE);
        due("ballots: no ministers above", desk.ballots(7, 2, 0), NONE);
        due("ballots: no what", desk.ballots(2, 2, 2), NONE);
        due("ballots: no what below", desk.ballots(2, 2, -1), NONE);
        due("ballots: no what above", desk.ballots(2, 2, 105), NONE);
        due("ballots: no what between", desk.ballots(2, 2, 99), NONE);
        due("ballots: no n", desk.ballots(2, 0, 0), NONE);
        due("ballots: not so many", desk.ballots(2, 41, 0), NONE);
        due("ballots: the tape stays", desk.count(6), 40);
        due("ballots: read", desk.ballots(2, 35, 100), 12);
        due("ballots: empty", desk.count(6), 0);
        Bench.feed(desk, new int[140]);
        due("ballots: no n above", desk.ballots(2, 121, 100), NONE);
        due("ballots: 120 are read", desk.ballots(2, 120, 100), -1000);
    }

    private static void ballotFaults() {
        PeacockDesk desk = new PeacockDesk();
        String[] texts = {"x", "d", ";", "3", "3;abc", "ab", "abd", "abc;", "abcd", "abca", "abc3", "abc ", "a", "1 abc", "12"};
        int[] places = {0, 0, 0, 1, 1, 2, 2, 4, 3, 3, 3, 3, 1, 1, 2};
        for (int i = 0; i < texts.length; i++) {
            due("ballots fault 1: " + texts[i], Bench.ballots(desk, 3, texts[i], 100), -1000 - places[i]);
        }
        due("ballots fault 1: the sign ahead of a", Bench.ballots(desk, 3, "`ab", 100), -1000);
        due("ballots fault 1: the sign ahead of a, later", Bench.ballots(desk, 3, "a`b", 100), -1001);
        due("ballots fault 2", Bench.ballots(desk, 3, "123abc", 100), -2002);
        due("ballots fault 2: ahead of 3", Bench.ballots(desk, 3, "000abc", 100), -2002);
        due("ballots fault 3", Bench.ballots(desk, 3, "0abc", 100), -3000);
        due("ballots fault 3: two", Bench.ballots(desk, 3, "abc;00abc", 100), -3004);
        due("ballots fault 3: at the end", Bench.ballots(desk, 3, "0", 100), -3000);
        due("ballots fault 3: ahead of 1", Bench.ballots(desk, 3, "0x", 100), -3000);
        due("ballots fault 4", Bench.ballots(desk, 2, times("ab", 13), 100), -4036);
        due("ballots fault 4: a digit", Bench.ballots(desk, 2, times("ab", 12) + ";0", 100), -4036);
        due("ballots fault 1: no 13th", Bench.ballots(desk, 2, times("ab", 12) + ";c", 100), -1036);
        due("ballots fault 1: the end", Bench.ballots(desk, 2, times("ab", 12) + ";", 100), -1036);
        due("ballots fault 6", Bench.ballots(desk, 3, "aba", 100), -6002);
        due("ballots fault 6: at once", Bench.ballots(desk, 3, "abc;2bb", 100), -6006);
        due("ballots: a fault empties the tape", desk.count(6), 0);
    }

    // ---- 7
    private static void daysGoBy() {
        PeacockDesk desk = desk("a5>0", "");
        due("days: no n", desk.days(0), NONE);
        due("days: no n above", desk.days(101), NONE);
        due("days: refused", desk.count(7), 1);
        due("days: one", desk.days(1), 1);
        // Eight draws, and one more for the cry.
        due("days: X", desk.count(7), 30502);
        due("days: THE DAY", desk.count(0), 1);
        due("days: DAYS of a done one", desk.caseIs(0, 5), 0);
        due("days: none more", desk.days(100), 0);
        due("days: hundred", desk.count(0), 101);

        PeacockDesk idle = desk("a5", "");
        due("days: none takes", idle.days(1), 0);
        due("days: a draw each", idle.count(7), 19417);
        due("days: DAYS", idle.caseIs(0, 5), 1);

        // Draws 2 (cry 7), 6 (none), ..: h 7 helps only where the second draw is below it.
        PeacockDesk two = desk("a5>0;b5>1", "h7(1=1)");
        due("days: second draws", two.days(1), 1);
        due("days: which", two.count(3), 2);
        due("days: CRIES", two.count(4), 2);
        due("days: X of ten draws", two.count(7), 20919);

        PeacockDesk three = desk("a1>3;b2>3;c3>3", "kv(1=1)");
        due("days: one a day", three.days(2), 2);
        due("days: the most first", three.count(3), 6);
        due("days: DAYS of each", 100 * three.caseIs(0, 5) + 10 * three.caseIs(1, 5) + three.caseIs(2, 5), 210);

        PeacockDesk eyes = desk(times("a1>2", 12) + ";b1;b1", "e9(p=2);e1(p=7);k0(1=1)");
        due("days: an eye must be left", eyes.days(1), 0);
        due("days: to the next", eyes.peacockIs(7, 0), 3 << 12);
    }

    private static void daysMoult() {
        PeacockDesk desk = desk("a1>0;b1>0;c1>1", "x(w=2)");
        due("moult: done", desk.days(1), 1);
        due("moult: WAITING again", desk.count(2), 3);
        due("moult: no cry", desk.peacockIs(0, 1), 0);
        // Draws 2 | 7 6 | 5 2 9 6 7 2: peacock 1 alone draws twice.
        due("moult: X", desk.count(7), 30502);
        due("moult: DAYS", desk.caseIs(0, 5), 1);
        PeacockDesk hen = desk("a1>8;b1", "x(p=8|p<9);e1(p=3)");
        hen.days(1);
        due("moult: never the hen", hen.peacockIs(8, 0), 1);
        due("moult: the others", hen.count(2), 2);
        due("moult: without an x none", desk("a1>0", "e1(1=1)").tried(1, 3), 1);
        due("moult: by q", desk("a1>0;b1>1;c1>1", "x(q=2)").tried(1, 2), 6);
    }

    private static void daysHen() {
        PeacockDesk desk = desk("a1>8;b2", "e1(p=8&d=3)");
        due("hen: seven days", desk.days(7), 0);
        due("hen: DAYS", desk.caseIs(0, 5), 7);
        due("hen: has both", desk.peacockIs(8, 0), 3);
        due("hen: behind the eighth", desk.days(1), 2);
        due("hen: cries nothing", desk.count(4), 0);
        due("hen: DAYS stay", desk.caseIs(0, 5), 7);
        // 64 draws, eight a day.
        int x = 1;
        for (int i = 0; i < 64; i++) {
            x = (25173 * x + 13849) & 65535;
        }
        due("hen: draws nothing", desk.count(7), x);
        PeacockDesk late = desk("a1", "e1(p=8&d=20)");
        due("hen: taken late, done at once", late.byWhen(0, 50), 21);
    }

    private static void daysEnd() {
        PeacockDesk desk = new PeacockDesk();
        due("end: keep", desk.keep(), 0);
        Bench.docket(desk, "a1;b2>0");
        Bench.law(desk, "h0(1=1)");
        for (int i = 0; i < 99; i++) {
            desk.days(100);
        }
        due("end: 9900", desk.count(0), 9900);
        due("end: as many as can are tried", desk.tried(100, 30), 9999);
        due("end: tried CRIES", desk.tried(100, 1), 99);
        due("end: as many as can", desk.days(100), 0);
        due("end: 9999", desk.count(0), 9999);
        due("end: DAYS", desk.caseIs(0, 5), 9999);
        due("end: CRIES", desk.peacockIs(0, 1), 9999);
        int x = desk.count(7);
        Bench.law(desk, "h10(1=1)");
        due("end: none goes by", desk.days(5), 0);
        due("end: no draw", desk.count(7), x);
        due("end: not by then", desk.byWhen(1, 100), -2);
        due("end: not quiet", desk.allQuiet(100), -2);
        due("end: undo", desk.undo(), true);
        due("end: THE DAY again", desk.count(0), 0);
        due("end: DAYS of those beyond stay", desk.caseIs(0, 5), 9999);
        due("end: one day", desk.days(1), 1);
        due("end: DAYS are 9999 at most", desk.caseIs(0, 5), 9999);
    }

    // ---- 8
    private static void daysTried() {
        PeacockDesk desk = desk("a1>0;b2>0;c3", "e1(p=4&d=1)");
        due("tried: done", desk.tried(1, 0), 1);
        due("tried: done in two", desk.tried(2, 0), 3);
        due("tried: cries", desk.tried(2, 1), 3);
        due("tried: waiting", desk.tried(1, 2), 4);
        due("tried: done ones", desk.tried(1, 3), 1);
        due("tried: peacock", desk.tried(1, 10), 2);
        due("tried: hen", desk.tried(1, 18), 0);
        due("tried: DAYS", desk.tried(2, 31), 1);
        due("tried: DAYS of the last", desk.tried(100, 32), 1);
        due("tried: nothing is changed", desk.count(0) + desk.count(3) + desk.count(4), 0);
        due("tried: X", desk.count(7), 1);
        int[] whats = {-1, 4, 9, 19, 29, 33, 54};
        for (int what : whats) {
            due("tried: no what " + what, desk.tried(1, what), NONE);
        }
        due("tried: no n", desk.tried(0, 0), NONE);
        due("tried: no n above", desk.tried(101, 0), NONE);
        desk.days(1);
        due("tried: in them only", desk.tried(1, 0), 2);
        due("tried: then", desk.tried(1, 3), 7);
        due("tried: no complaint", new PeacockDesk().tried(1, 30), NONE);
    }

    // ---- 9
    private static void casesLookedAt() {
        PeacockDesk desk = desk("c45!>2;d6", "");
        int[] first = {2, 45, 1, 1, 2, 0};
        int[] second = {3, 6, 0, 0, -2, 0};
        for (int what = 0; what < 6; what++) {
            due("caseIs(0, " + what + ")", desk.caseIs(0, what), first[what]);
            due("caseIs(1, " + what + ")", desk.caseIs(1, what), second[what]);
        }
        desk.days(3);
        due("caseIs: DONE", desk.caseIs(0, 3), 2);
        due("caseIs: DONE by none", desk.caseIs(0, 4), -2);
        due("caseIs: DAYS", desk.caseIs(1, 5), 3);
        due("caseIs: no what", desk.caseIs(0, 6), NONE);
        due("caseIs: no what below", desk.caseIs(0, -1), NONE);
        due("caseIs: no case", desk.caseIs(2, 0), NONE);
        due("caseIs: no case below", desk.caseIs(-1, 0), NONE);
    }

    // ---- 10
    private static void peacocksLookedAt() {
        PeacockDesk desk = desk("a10>2;b20;c30>2;d40>8", "h0(1=1)");
        due("peacockIs: bits", desk.peacockIs(2, 0), 5);
        due("peacockIs: WEIGHTS", desk.peacockIs(2, 2), 40);
        due("peacockIs: hen", desk.peacockIs(8, 2), 40);
        desk.days(3);
        due("peacockIs: CRIES", desk.peacockIs(2, 1), 3);
        due("peacockIs: none", desk.peacockIs(0, 0), 0);
        due("peacockIs: no what", desk.peacockIs(2, 3), NONE);
        due("peacockIs: no what below", desk.peacockIs(2, -1), NONE);
        due("peacockIs: no such", desk.peacockIs(9, 0), NONE);
        due("peacockIs: no such below", desk.peacockIs(-1, 0), NONE);
    }

    // ---- 11
    private static void byWhenDone() {
        PeacockDesk desk = desk("a1>0;b2>0;c3", "e0(1=1)");
        due("byWhen: first", desk.byWhen(0, 1), 1);
        due("byWhen: second", desk.byWhen(1, 100), 2);
        due("byWhen: not in one", desk.byWhen(1, 1), -2);
        due("byWhen: never", desk.byWhen(2, 100), -2);
        due("byWhen: no n", desk.byWhen(0, 0), NONE);
        due("byWhen: no n above", desk.byWhen(0, 101), NONE);
        due("byWhen: no case", desk.byWhen(3, 1), NONE);
        due("byWhen: no case below", desk.byWhen(-1, 1), NONE);
        due("byWhen: nothing is changed", desk.count(0), 0);
        desk.days(1);
        due("byWhen: it is", desk.byWhen(0, 1), 0);
        due("byWhen: it is, no n", desk.byWhen(0, 0), NONE);
    }

    // ---- 12
    private static void quiet() {
        PeacockDesk desk = desk("a1>0;b2>0;c3>1", "");
        due("allQuiet: two", desk.allQuiet(2), 2);
        due("allQuiet: not in one", desk.allQuiet(1), -2);
        due("allQuiet: no n", desk.allQuiet(0), NONE);
        due("allQuiet: no n above", desk.allQuiet(101), NONE);
        due("allQuiet: nothing is changed", desk.count(7), 1);
        desk.days(2);
        due("allQuiet: they are", desk.allQuiet(1), 0);
        due("allQuiet: none told", new PeacockDesk().allQuiet(100), 0);
        due("allQuiet: none told, no n", new PeacockDesk().allQuiet(0), NONE);
    }

    // ---- 13
    private static void heardMost() {
        PeacockDesk desk = desk("a1>5;b1>2;c1>5", "");
        due("heard: none", desk.heard(0), 0);
        due("heard: none, how many", desk.heard(1), 0);
        desk.days(1);
        due("heard: of like ones the lowest", desk.heard(0), 2);
        due("heard: one", desk.heard(1), 1);
        desk.days(1);
        due("heard: most", desk.heard(0), 5);
        due("heard: two", desk.heard(1), 2);
        due("heard: no what", desk.heard(2), NONE);
        due("heard: no what below", desk.heard(-1), NONE);
    }

    // ---- 14
    private static void longestOpen() {
        PeacockDesk desk = desk("a1>0;b1;c1>1", "h0(p=0)");
        due("longest: of like ones the lowest", desk.longest(), 0);
        desk.days(2);
        due("longest: still", desk.longest(), 0);
        Bench.law(desk, "h10(1=1)");
        desk.days(1);
        due("longest: not DONE", desk.longest(), 1);
        due("longest: taken again", desk.say(0, 8) ? desk.longest() : -9, 1);
        due("longest: all are DONE", longestOfDone(), -2);
        due("longest: none", new PeacockDesk().longest(), -2);
    }

    private static int longestOfDone() {
        PeacockDesk desk = desk("a1>0;b1>1", "");
        desk.days(1);
        return desk.longest();
    }

    // ---- 15
    private static void subjects() {
        PeacockDesk desk = desk("a10>0;a20;p30;a40", "");
        due("ofSubject: how many", desk.ofSubject(0, 0), 3);
        due("ofSubject: WEIGHTS", desk.ofSubject(0, 1), 70);
        due("ofSubject: last", desk.ofSubject(15, 1), 30);
        due("ofSubject: none", desk.ofSubject(1, 0), 0);
        desk.days(1);
        due("ofSubject: DONE ones, too", desk.ofSubject(0, 0), 3);
        due("ofSubject: WEIGHTS of those not DONE", desk.ofSubject(0, 1), 60);
        due("ofSubject: no subject", desk.ofSubject(16, 0), NONE);
        due("ofSubject: no subject below", desk.ofSubject(-1, 0), NONE);
        due("ofSubject: no what", desk.ofSubject(0, 2), NONE);
        due("ofSubject: no what below", desk.ofSubject(0, -1), NONE);
    }

    // ---- 16
    private static void spreadAndAlike() {
        PeacockDesk desk = desk("a1>8;a1>8;a1>8;b1>2;b1", "");
        due("numbers: SPREAD", desk.numbers(0), 3);
        due("numbers: ALIKE", desk.numbers(1), 4);
        desk.days(8);
        due("numbers: SPREAD then", desk.numbers(0), 0);
        due("numbers: ALIKE of DONE ones, too", desk.numbers(1), 4);
        PeacockDesk each = desk("a1>0;a1>1;a1>2;a1>3;a1>4;a1>5;a1>6;a1>7;a1>8;b1>4", "");
        due("numbers: less the fewest", each.numbers(0), 1);
        due("numbers: no what", desk.numbers(2), NONE);
        due("numbers: no what below", desk.numbers(-1), NONE);
    }

    // ---- 17
    private static void fairShares() {
        PeacockDesk desk = desk("a8>0;b7;c6;d5;e4", "");
        int[] best = {30, 15, 11, 9};
        for (int many = 1; many <= 4; many++) {
            due("fair(" + many + ")", desk.fair(many), best[many - 1]);
        }
        due("fair: no number", desk.fair(0), NONE);
        due("fair: no number above", desk.fair(5), NONE);
        desk.days(1);
        due("fair: those not DONE", desk.fair(1), 22);
        due("fair: one is heaviest", desk("a99;b1;c1", "").fair(3), 99);
        due("fair: nothing weighs", desk("a0;b0;c0", "").fair(2), 0);
        PeacockDesk ten = desk("a10;b10;c10;d10;e10;f10;g10;h10;i10;j10;k10>0", "");
        due("fair: eleven", ten.fair(2), -4);
        due("fair: eleven, no number", ten.fair(0), NONE);
        ten.days(1);
        due("fair: ten", ten.fair(4), 30);
        due("fair: ten by three", ten.fair(3), 40);
        // 97+95+2 = 96+94+4 = 93+92+9 = 194: no greedy way finds it.
        due("fair: three by three", desk("a97;a96;a95;a94;a93;a92;a9;a4;a2", "").fair(3), 194);
        due("fair: none left", new PeacockDesk().fair(1), 0);
    }

    // ---- 18
    private static int seats(int many, boolean highest, int what, int... votes) {
        PeacockDesk desk = new PeacockDesk();
        Bench.feed(desk, votes);
        int answer = desk.seats(votes.length, many, highest, what);
        due("seats: empty", desk.count(6), 0);
        return answer;
    }

    private static void seatsShared() {
        // 47, 16, 16, 12, 6, 3 of 100, ten seats: rests 7 6 6 2 6 3.
        int[] votes = {47, 16, 16, 12, 6, 3};
        int[] rests = {5, 2, 2, 1, 0, 0};
        for (int i = 0; i < votes.length; i++) {
            due("seats: rests of " + i, seats(10, false, i, votes), rests[i]);
        }
        // Quotients 47 23.5 16 16 15.67 12 11.75 9.4 8 8 7.83 ..: the tenth is the 8 of party 1.
        int[] high = {5, 2, 2, 1, 0, 0};
        for (int i = 0; i < votes.length; i++) {
            due("seats: highest of " + i, seats(10, true, i, votes), high[i]);
        }
        due("seats: like rests, the lowest", seats(1, false, 0, 7, 7), 1);
        due("seats: like rests, the other", seats(1, false, 1, 7, 7), 0);
        due("seats: like numbers, the lowest", seats(3, true, 0, 7, 7), 2);
        due("seats: like through", seats(2, true, 0, 8, 4), 2);
        due("seats: sixty", seats(60, true, 7, 255, 255, 255, 255, 255, 255, 255, 255), 7);
        due("seats: sixty by rests", seats(60, false, 3, 255, 255, 255, 255, 255, 255, 255, 255), 8);
        due("seats: without votes", seats(60, true, 1, 1, 0), 0);
        due("seats: no votes", seats(5, false, 0, 0, 0), -2);
        due("seats: no votes by highest", seats(5, true, 1, 0, 0), -2);
        PeacockDesk desk = new PeacockDesk();
        Bench.feed(desk, 5, 3, 2);
        due("seats: no n", desk.seats(1, 5, true, 0), NONE);
        due("seats: no n above", desk.seats(9, 5, true, 0), NONE);
        due("seats: no seats", desk.seats(3, 0, true, 0), NONE);
        due("seats: no seats above", desk.seats(3, 61, true, 0), NONE);
        due("seats: no party", desk.seats(3, 5, true, 3), NONE);
        due("seats: no party below", desk.seats(3, 5, true, -1), NONE);
        due("seats: the tape stays", desk.count(6), 20);
        due("seats: read", desk.seats(3, 10, true, 0), 5);
        due("seats: not so many", desk.seats(3, 10, true, 0), NONE);
    }

    // ---- 19
    private static int power(int quota, int what, int... weights) {
        PeacockDesk desk = new PeacockDesk();
        Bench.feed(desk, weights);
        int answer = desk.power(weights.length, quota, what);
        due("power: empty", desk.count(6), 0);
        return answer;
    }

    private static void powerCounted() {
        // 4 2 1, quota 4: the first comes in all orders by itself.
        due("power: alone", power(4, 0, 4, 2, 1), 6);
        due("power: others", power(4, 1, 4, 2, 1), 0);
        // 3 2 2, quota 4: any two.
        due("power: two of three", power(4, 0, 3, 2, 2), 2);
        due("power: who", power(4, 100, 3, 2, 2), 0);
        due("power: who has most", power(5, 100, 1, 5, 2), 1);
        // 50 49 1, quota 51: the first 4 of 6, the others 1 each.
        due("power: 50 49 1", power(51, 0, 50, 49, 1), 4);
        due("power: 49", power(51, 1, 50, 49, 1), 1);
        due("power: 1", power(51, 2, 50, 49, 1), 1);
        due("power: never reached", power(100, 0, 50, 49), 0);
        due("power: none has any", power(100, 100, 50, 49), 0);
        due("power: weighs nothing", power(1, 1, 1, 0), 0);
        due("power: eight", power(2040, 7, 255, 255, 255, 255, 255, 255, 255, 255), 5040);
        due("power: eight, the first", power(1, 7, 255, 255, 255, 255, 255, 255, 255, 255), 5040);
        PeacockDesk desk = new PeacockDesk();
        Bench.feed(desk, 5, 3, 2);
        due("power: no n", desk.power(1, 5, 0), NONE);
        due("power: no n above", desk.power(9, 5, 0), NONE);
        due("power: no quota", desk.power(3, 0, 0), NONE);
        due("power: no quota above", desk.power(3, 2041, 0), NONE);
        due("power: no what", desk.power(3, 5, 3), NONE);
        due("power: no what below", desk.power(3, 5, -1), NONE);
        due("power: no what above", desk.power(3, 5, 101), NONE);
        due("power: the tape stays", desk.count(6), 20);
        due("power: read", desk.power(3, 5, 0), 4);
        due("power: not so many", desk.power(3, 5, 0), NONE);
    }

    // ---- 20
    private static int quills(int what, int... digits) {
        PeacockDesk desk = new PeacockDesk();
        Bench.feed(desk, digits);
        int answer = desk.quills(digits.length, what);
        due("quills: empty", desk.count(6), 0);
        return answer;
    }

    private static void quillsRight() {
        // 0-306-40615-2 is the number of a book.
        due("quills: right", quills(0, 0, 3, 0, 6, 4, 0, 6, 1, 5, 2), 1);
        due("quills: wrong", quills(0, 0, 3, 0, 6, 4, 0, 6, 1, 5, 3), 0);
        due("quills: the last digit", quills(1, 0, 3, 0, 6, 4, 0, 6, 1, 5, 9), 2);
        due("quills: none", quills(1, 6, 0), 10);
        due("quills: ten stands in none", quills(1, 0, 8, 0, 4, 4, 2, 9, 5, 7, 0), 10);
        due("quills: ways of a right one", quills(2, 0, 3, 0, 6, 4, 0, 6, 1, 5, 2), 0);
        // 1 2: 2*1 + 2 = 4. The last would be 9; the first would be 10 more than none of 0 to 9 but 10.
        due("quills: ways", quills(2, 1, 2), 1);
        // The eleventh place from the end weighs nothing: each of nine other digits there keeps it right.
        due("quills: eleven digits", quills(2, 5, 0, 0, 0, 0, 0, 0, 0, 0, 0, 0), 9);
        due("quills: twelve digits", quills(0, 9, 9, 0, 0, 0, 0, 0, 0, 0, 0, 0, 2), 1);
        due("quills: a byte above 9", quills(0, 1, 10), -3);
        due("quills: a byte above 9, last digit", quills(1, 1, 255), -3);
        due("quills: a byte above 9, ways", quills(2, 10, 0), -3);
        PeacockDesk desk = new PeacockDesk();
        Bench.feed(desk, 1, 9, 200);
        due("quills: no n", desk.quills(1, 0), NONE);
        due("quills: no n above", desk.quills(13, 0), NONE);
        due("quills: no what", desk.quills(2, 3), NONE);
        due("quills: no what below", desk.quills(2, -1), NONE);
        due("quills: the tape stays", desk.count(6), 20);
        due("quills: read", desk.quills(2, 0), 1);
        due("quills: not so many", desk.quills(2, 0), NONE);
    }

    // ---- 21
    private static void weekdays() {
        PeacockDesk desk = new PeacockDesk();
        due("weekday: a Wednesday", desk.weekday(18, 11, 2026), 2);
        due("weekday: first", desk.weekday(1, 1, 1600), 5);
        due("weekday: last", desk.weekday(31, 12, 2999), 1);
        due("weekday: 2000", desk.weekday(29, 2, 2000), 1);
        due("weekday: 1900", desk.weekday(29, 2, 1900), -2);
        due("weekday: 2023", desk.weekday(29, 2, 2023), -2);
        due("weekday: 2024", desk.weekday(29, 2, 2024), 3);
        due("weekday: Sunday", desk.weekday(2, 7, 2023), 6);
        due("weekday: day 0", desk.weekday(0, 1, 2000), -2);
        due("weekday: day 32", desk.weekday(32, 1, 2000), -2);
        due("weekday: day 31", desk.weekday(31, 4, 2000), -2);
        due("weekday: month 0", desk.weekday(1, 0, 2000), NONE);
        due("weekday: month 13", desk.weekday(99, 13, 2000), NONE);
        due("weekday: year 1599", desk.weekday(1, 1, 1599), NONE);
        due("weekday: year 3000", desk.weekday(99, 1, 3000), NONE);
        for (int year = 1600; year <= 2999; year++) {
            due("weekday 1 3 " + year, desk.weekday(1, 3, year), Model.weekday(1, 3, year));
        }
        for (int year = 1600; year <= 2999; year += 7) {
            for (int month = 0; month <= 13; month++) {
                for (int day = 0; day <= 32; day += 4) {
                    due("weekday " + day + " " + month + " " + year, desk.weekday(day, month, year), Model.weekday(day, month, year));
                }
            }
        }
    }

    // ---- 22
    private static void daysOfWork() {
        PeacockDesk desk = new PeacockDesk();
        // 2026 begins on a Thursday.
        due("work: none", desk.work(2026, 1, 1), 0);
        due("work: Thursday", desk.work(2026, 1, 2), 1);
        due("work: over Saturday and Sunday", desk.work(2026, 1, 6), 3);
        due("work: a week", desk.work(2026, 3, 10), 5);
        due("work: a year", desk.work(2026, 1, 365), 260);
        due("work: a leap year", desk.work(2024, 1, 366), 261);
        due("work: no day 366", desk.work(2026, 1, 366), NONE);
        due("work: no day 367", desk.work(2024, 1, 367), NONE);
        due("work: no day 0", desk.work(2026, 0, 5), NONE);
        due("work: back", desk.work(2026, 6, 5), NONE);
        due("work: no year", desk.work(1599, 1, 2), NONE);
        due("work: no year above", desk.work(3000, 1, 2), NONE);
        due("work: first year", desk.work(1600, 1, 366), 260);
        due("work: last year", desk.work(2999, 365, 365), 0);
        for (int year = 1600; year <= 2999; year += 9) {
            int from = year % 366 + 1;
            int to = Math.min(367, from + year % 50);
            due("work " + year + " " + from + " " + to, desk.work(year, from, to), Model.work(year, from, to));
        }
    }

    // ---- 23
    private static void cries() {
        PeacockDesk desk = new PeacockDesk();
        due("cry: 3 4", desk.cry(3, 4, 1), 10);
        due("cry: 3 4 by 5", desk.cry(3, 4, 5), 2);
        due("cry: rounded up", desk.cry(3, 4, 4), 3);
        due("cry: just above", desk.cry(3, 5, 1), 12);
        due("cry: here", desk.cry(0, 0, 9), 0);
        due("cry: far", desk.cry(99, 99, 1), 281);
        due("cry: fast", desk.cry(1, 0, 99), 1);
        due("cry: straight", desk.cry(0, 99, 99), 2);
        int[][] none = {{-1, 0, 1}, {0, -1, 1}, {100, 0, 1}, {0, 100, 1}, {1, 1, 0}, {1, 1, 100}, {1, 1, -1}};
        for (int[] n : none) {
            due("cry: none " + n[0] + " " + n[1] + " " + n[2], desk.cry(n[0], n[1], n[2]), NONE);
        }
        for (int across = 0; across <= 99; across += 3) {
            for (int along = 0; along <= 99; along += 2) {
                for (int fast = 1; fast <= 99; fast += 7) {
                    long way = 4L * (across * across + along * along);
                    long is = desk.cry(across, along, fast);
                    boolean enough = is * is * fast * fast >= way;
                    boolean least = is == 0 || (is - 1) * (is - 1) * fast * fast < way;
                    due("cry " + across + " " + along + " " + fast, enough && least, true);
                }
            }
        }
    }

    // ---- 24
    private static int picked(int from, int... feathers) {
        PeacockDesk desk = new PeacockDesk();
        Bench.feed(desk, feathers);
        int answer = desk.pickedUp(feathers.length / 2, from);
        due("pickedUp: empty", desk.count(6), 0);
        return answer;
    }

    private static void feathers() {
        due("pickedUp: here", picked(7, 7, 0), 1);
        due("pickedUp: in time", picked(7, 10, 3), 1);
        due("pickedUp: too late", picked(7, 10, 2), 0);
        due("pickedUp: both ways", picked(7, 5, 2, 10, 7), 2);
        due("pickedUp: both ways, too late", picked(7, 5, 2, 10, 6), 1);
        due("pickedUp: by the way", picked(0, 3, 3, 5, 5, 4, 4), 3);
        due("pickedUp: there and back", picked(10, 9, 1, 11, 3, 8, 6, 12, 10), 4);
        due("pickedUp: one place", picked(4, 6, 2, 6, 1, 6, 3, 4, 0), 3);
        due("pickedUp: ends", picked(0, 255, 255), 1);
        due("pickedUp: ends back", picked(255, 0, 254), 0);
        due("pickedUp: ten", picked(50, 50, 0, 49, 1, 51, 3, 48, 6, 52, 10, 47, 15, 53, 21, 46, 28, 54, 36, 45, 44), 9);
        due("pickedUp: ten, a minute more", picked(50, 50, 0, 49, 1, 51, 3, 48, 6, 52, 10, 47, 15, 53, 21, 46, 28, 54, 36, 45, 45), 10);
        PeacockDesk desk = new PeacockDesk();
        Bench.feed(desk, 5, 3, 2, 9);
        due("pickedUp: no n", desk.pickedUp(0, 0), NONE);
        due("pickedUp: no n above", desk.pickedUp(11, 0), NONE);
        due("pickedUp: no n far above", desk.pickedUp(1 << 30 | 1, 0), NONE);
        due("pickedUp: no place", desk.pickedUp(2, 256), NONE);
        due("pickedUp: no place below", desk.pickedUp(2, -1), NONE);
        due("pickedUp: the tape stays", desk.count(6), 20);
        due("pickedUp: read", desk.pickedUp(2, 5), 2);
        due("pickedUp: not so many", desk.pickedUp(1, 0), NONE);
    }

    // ---- 25
    private static int together(int many, int... every) {
        PeacockDesk desk = new PeacockDesk();
        Bench.feed(desk, every);
        int answer = desk.tails(every.length, many);
        due("tails: empty", desk.count(6), 0);
        return answer;
    }

    private static void tailsTogether() {
        due("tails: two of three", together(2, 4, 6, 10), 12);
        due("tails: three", together(3, 4, 6, 10), 60);
        due("tails: one", together(1, 4, 6, 10), 4);
        due("tails: so many at least", together(2, 2, 2, 2), 2);
        due("tails: parts in common", together(3, 160, 125, 32), 4000);
        due("tails: one within another", together(3, 253, 17, 23), 253 * 17);
        due("tails: none up to 100000", together(3, 251, 241, 239), -2);
        due("tails: none, two of them", together(2, 251, 241, 239), 239 * 241);
        due("tails: twelve", together(12, 1, 2, 3, 4, 5, 6, 7, 8, 9, 10, 11, 12), 27720);
        due("tails: eleven of twelve", together(11, 1, 2, 3, 4, 5, 6, 7, 8, 9, 10, 11, 12), 2520);
        due("tails: just within", together(4, 119, 120, 49, 8), 99960);
        due("tails: of two and all", together(3, 255, 254, 2), 64770);
        due("tails: every 0", together(1, 4, 0), -3);
        PeacockDesk desk = new PeacockDesk();
        Bench.feed(desk, 5, 3, 0);
        due("tails: no n", desk.tails(1, 1), NONE);
        due("tails: no n above", desk.tails(13, 1), NONE);
        due("tails: no many", desk.tails(2, 0), NONE);
        due("tails: no many above", desk.tails(2, 3), NONE);
        due("tails: the tape stays", desk.count(6), 20);
        due("tails: the 0 is not among them", desk.tails(2, 2), 15);
        due("tails: not so many", desk.tails(2, 1), NONE);
    }

    // ---- 26
    private static void seeds() {
        PeacockDesk desk = new PeacockDesk();
        due("seed: 0", desk.seed(0), true);
        due("seed: X", desk.count(7), 0);
        due("seed: 65535", desk.seed(65535), true);
        due("seed: X high", desk.count(7), 65535);
        due("seed: above", desk.seed(65536), false);
        due("seed: below", desk.seed(-1), false);
        due("seed: stays", desk.count(7), 65535);
        Bench.docket(desk, "a1");
        due("seed: a docket leaves it", desk.count(7), 65535);
        desk.seed(1);
        desk.days(1);
        due("seed: eight draws", desk.count(7), 19417);
    }

    // ---- 27, 28
    private static void keptAndUndone() {
        PeacockDesk desk = desk("a1>0;b2>0;c3", "");
        desk.days(1);
        int x = desk.count(7);
        due("keep: THE DAY", desk.keep(), 1);
        desk.days(4);
        desk.say(2, 8);
        desk.seed(9);
        due("undo", desk.undo(), true);
        due("undo: THE DAY", desk.count(0), 1);
        due("undo: X", desk.count(7), x);
        due("undo: CRIES", desk.count(4), 1);
        due("undo: DONE", desk.count(3), 1);
        due("undo: WAITING", desk.count(2), 4);
        due("undo: DAYS", desk.caseIs(2, 5), 1);
        due("undo: the law stays", Bench.law(desk, "k5(1=1)"), 1);
        desk.days(1);
        due("undo: again", desk.undo(), true);
        due("undo: again, THE DAY", desk.count(0), 1);
        due("undo: the law is as it is", desk.count(5), 1);
        Bench.docket(desk, "d4>6;e5>7;f6>8;g7>5");
        due("undo: of as many as then", desk.undo(), true);
        due("undo: WEIGHTS stay", desk.caseIs(1, 1), 5);
        due("undo: the first is DONE", desk.caseIs(0, 3), 2);
        due("undo: the second is taken", desk.caseIs(1, 4), 0);
        due("undo: the third waits", desk.caseIs(2, 3), 0);
        due("undo: with DAYS", desk.caseIs(2, 5), 1);
        due("undo: those beyond stay", desk.caseIs(3, 4), 5);
        due("undo: CRIES of the first docket", desk.peacockIs(0, 1), 1);
        Bench.docket(desk, "d4>6");
        due("undo: of as many as now", desk.undo(), true);
        due("undo: one", desk.count(1), 1);
        due("undo: no others", desk.count(2) + 10 * desk.count(3), 10);

        PeacockDesk many = desk(times("a1>0", 12), "");
        many.keep();
        Bench.docket(many, times("a1>1", 12) + ";" + times("a1>0", 12));
        many.undo();
        due("undo: more than 12", many.peacockIs(0, 0), 0xffffff);
        due("undo: SPREAD", many.numbers(0), 24);
        due("undo: no eye left", many.say(3, 0), false);
        due("undo: one to another", many.say(3, 1), true);
        due("undo: no eye left still", many.say(3, 0), false);
        due("undo: q is 23", Bench.law(many, "h10(q=23);h0(1=1)") == 2 ? many.tried(1, 0) : -9, 1);
        PeacockDesk fresh = new PeacockDesk();
        due("keep: none", fresh.keep(), 0);
        due("undo: of none", fresh.undo(), true);
    }

    // ---- 29
    private static void checked() {
        PeacockDesk desk = desk("a10>0;b20;c0", "");
        desk.days(1);
        Bench.feed(desk, 0, 20, 0, 255, 255);
        due("check: right", desk.check(5), NONE);
        due("check: empty", desk.count(6), 0);
        Bench.feed(desk, 10, 20, 0);
        due("check: a DONE one is 0", desk.check(3), 0);
        Bench.feed(desk, 0, 21, 1);
        due("check: the first", desk.check(3), 1);
        Bench.feed(desk, 0, 20, 1);
        due("check: not asked", desk.check(2), NONE);
        Bench.feed(desk, 0, 20, 0, 0);
        due("check: not 255", desk.check(4), 3);
        Bench.feed(desk, 9);
        due("check: no n", desk.check(-1), -2);
        due("check: no n above", desk.check(25), -2);
        due("check: not so many", desk.check(21), -2);
        due("check: the tape stays", desk.count(6), 20);
        due("check: none is right", desk.check(0), NONE);
        due("check: none empties, too", desk.count(6), 0);
        int[] none = new int[24];
        java.util.Arrays.fill(none, 255);
        PeacockDesk fresh = new PeacockDesk();
        Bench.feed(fresh, none);
        due("check: 24", fresh.check(24), NONE);
    }

    // ---- 30
    private static void counted() {
        PeacockDesk desk = desk("a1>0;b2>1;c3", "h8(1=1);k1(1=1)");
        desk.days(2);
        // Draws 2 (7) 6 (5): both cries help on the first day.
        Bench.feed(desk, 1);
        int[] due = {2, 3, 4, 3, 2, 2, 20};
        for (int what = 0; what < due.length; what++) {
            due("count(" + what + ")", desk.count(what), due[what]);
        }
        int x = 1;
        for (int i = 0; i < 18; i++) {
            x = (25173 * x + 13849) & 65535;
        }
        due("count(7)", desk.count(7), x);
        due("count(8)", desk.count(8), NONE);
        due("count(-1)", desk.count(-1), NONE);
    }

    /** A refused call leaves all as it is; a taken text leaves nothing behind. */
    private static void refusedTape() {
        PeacockDesk desk = new PeacockDesk();
        Bench.feed(desk, Bench.bytes("a1"));
        due("refused: law", desk.law(300), NONE);
        due("refused: docket", desk.docket(21), NONE);
        due("refused: ballots", desk.ballots(3, 21, 100), NONE);
        due("refused: the text is there", desk.docket(2), 1);
        due("refused: nothing is left", desk.docket(2), NONE);
        due("refused: one complaint", desk.count(1), 1);
    }
}
