/**
 * What can stand where in a DOCKET, in BALLOTS and in THE LAW: each FAULT, its place, and which comes first;
 * lines, digits and brackets at the most there may be, one less and one more.
 */
public final class EdgesOfTextsTest {
    private static final int NONE = PeacockDesk.NONE;
    private static final PeacockDesk DESK = new PeacockDesk();

    /** Reads a text by one of the calls; a desk of its own each time. */
    private interface Reader {
        int of(String text);
    }

    public static void main(String[] args) {
        docketSigns();
        docketNumbers();
        docketLines();
        docketEyes();
        docketInPlace();
        ballotSigns();
        ballotNumbers();
        ballotLines();
        ballotTwice();
        lawSigns();
        lawNumbers();
        lawRules();
        lawOpen();
        lawInPlace();
        beginnings();
        eachByte();
        Bench.end("EdgesOfTextsTest");
    }

    private static void due(String call, long got, long want) {
        Bench.due(call, got, want);
    }

    private static String times(String line, int many) {
        return (line + ";").repeat(many).substring(0, (line.length() + 1) * many - 1);
    }

    private static int docket(String text) {
        return Bench.docket(new PeacockDesk(), text);
    }

    private static int law(String text) {
        return Bench.law(new PeacockDesk(), text);
    }

    private static int ballots(int ministers, String text) {
        return Bench.ballots(new PeacockDesk(), ministers, text, 100);
    }

    /** Texts with what is due, turn by turn. */
    private static void table(String name, Reader reader, Object... rows) {
        for (int i = 0; i + 1 < rows.length; i += 2) {
            String text = (String) rows[i];
            due(name + " " + text, reader.of(text), (Integer) rows[i + 1]);
        }
    }

    // ---- A DOCKET

    private static void docketSigns() {
        // Signs one below and one above those that can stand there.
        table("docket letter", EdgesOfTextsTest::docket, "`1", -1000, "a1", 1, "b1", 1, "o1", 1, "p1", 1, "q1", -1000, "A1", -1000, "P1", -1000,
            "!", -1000, ">", -1000, ";", -1000, "0", -1000, "\u00e11", -1000, "\u00001", -1000, "\u00ff1", -1000);
        table("docket digit", EdgesOfTextsTest::docket, "a/", -1001, "a0", 1, "a1", 1, "a8", 1, "a9", 1, "a:", -1001, "a;", -1001, "aa", -1001,
            "a", -1001, "a!", -1001, "a>", -1001, "a>0", -1001);
        table("docket second digit", EdgesOfTextsTest::docket, "a1/", -1002, "a10", 1, "a19", 1, "a1:", -1002, "a1a", -1002);
        table("docket urgent", EdgesOfTextsTest::docket, "a1 ", -1002, "a1!", 1, "a1\"", -1002, "a1!!", -1003, "a12!", 1, "a12!!", -1004,
            "a1!1", -1003, "a1!a", -1003);
        table("docket taken", EdgesOfTextsTest::docket, "a1=", -1002, "a1>0", 1, "a1?", -1002, "a1!>0", 1, "a1!=", -1003, "a1!?", -1003,
            "a1>/", -1003, "a1>1", 1, "a1>7", 1, "a1>8", 1, "a1>9", -1003, "a1>:", -1003, "a1>", -1003, "a1>;", -1003, "a1>>", -1003,
            "a1>!", -1003, "a1>0!", -1004, "a1>00", -1004, "a1>08", -1004, "a1>0>1", -1004, "a1>0a", -1004);
        table("docket between", EdgesOfTextsTest::docket, "a1:b1", -1002, "a1;b1", 2, "a1<b1", -1002, "a1;", -1003, "a1;;b1", -1003,
            ";a1", -1000, "a1!;b1", 2, "a1>0;b1", 2, "a1!>0;b1", 2, "a1!:b1", -1003, "a1>0:b1", -1004, "a1>0<b1", -1004, "a1b1", -1002,
            "a1 ;b1", -1002, "a1; b1", -1003);
    }

    private static void docketNumbers() {
        table("docket third digit", EdgesOfTextsTest::docket, "a00", 1, "a99", 1, "a000", -2003, "a001", -2003, "a100", -2003, "a990", -2003,
            "a999", -2003, "a99/", -1003, "a99:", -1003, "a1;b123", -2006, "a1;b12;c345", -2010, "a123;q", -2003, "q123", -1000, "a123!", -2003);
        int[] weights = {0, 0, 1, 1, 9, 9, 10, 98, 99};
        Bench.docket(DESK, "a0;a00;a1;a01;a9;a09;a10;a98;a99");
        for (int c = 0; c < weights.length; c++) {
            due("docket weight of " + c, DESK.caseIs(c, 1), weights[c]);
        }
        Bench.docket(DESK, "a1;b2!;o3>0;p4!>8");
        int[][] told = {{0, 1, 0, 0, -2, 0}, {1, 2, 1, 0, -2, 0}, {14, 3, 0, 1, 0, 0}, {15, 4, 1, 1, 8, 0}};
        for (int c = 0; c < told.length; c++) {
            for (int what = 0; what <= 5; what++) {
                due("docket caseIs(" + c + ", " + what + ")", DESK.caseIs(c, what), told[c][what]);
            }
        }
    }

    private static void docketLines() {
        for (int many = 1; many <= 24; many++) {
            due("docket of " + many + " lines", docket(times("a1", many)), many);
        }
        due("docket of 24 lines, of six bytes", docket(times("a1!>0;b1!>1;c1!>2", 8)), 24);
        String full = times("a1", 24) + ";";
        table("docket, 25th line", EdgesOfTextsTest::docket, full + "a1", -4072, full + "a", -4072, full + "p", -4072, full + "b000", -4072,
            full + "q", -1072, full + "`", -1072, full + "1", -1072, full + ";", -1072, full, -1072, full + "!a", -1072);
        String wide = times("a12>0;b34>1", 12) + ";";
        table("docket, 25th line of others", EdgesOfTextsTest::docket, wide + "p1", -4144, wide + "c1>0", -4144, wide + "q", -1144);
        // What stands ahead of the 25th line comes first.
        table("docket, ahead of a 25th line", EdgesOfTextsTest::docket, times("a1", 23) + ";a111;a1", -2072, times("a1", 23) + ";q1;a1", -1069);
    }

    private static void docketEyes() {
        for (int p = 0; p <= 8; p++) {
            String eleven = times("a1>" + p, 11);
            due("docket, eleven of " + p, docket(eleven), 11);
            due("docket, twelve of " + p, docket(eleven + ";b1>" + p), 12);
            due("docket, thirteen of " + p, docket(eleven + ";b1>" + p + ";c1>" + p), -6063);
            due("docket, thirteen of " + p + ", two digits, urgent", docket(eleven + ";b1>" + p + ";c12!>" + p), -6065);
            due("docket, twelve of " + p + " and one of another", docket(eleven + ";b1>" + p + ";c1>" + (p + 1) % 9), 13);
            due("docket, twelve of " + p + " and one that waits", docket(eleven + ";b1>" + p + ";c1"), 13);
            due("docket, twelve of " + p + " and none such", docket(eleven + ";b1>" + p + ";c1>9"), -1063);
        }
        due("docket, twelve of two", docket(times("a1>3", 12) + ";" + times("a1>4", 12)), 24);
        due("docket, a thirteenth far behind", docket(times("a1>3;a1", 11) + ";a1>3;a1>3"), -6096);
        // A 25th line is a fault at its letter, ahead of a peacock without an eye.
        due("docket, a 25th line of a full one", docket(times("a1>3", 12) + ";" + times("a1>4", 12) + ";a1>4"), -4120);
    }

    /** "In place of all ahead: DAYS 0, CRIES 0, none DONE (THE DAY stays)." */
    private static void docketInPlace() {
        PeacockDesk desk = new PeacockDesk();
        Bench.docket(desk, times("a1>0", 12) + ";" + times("p99!>8", 12));
        Bench.law(desk, "e1(p=5);k1(1=1)");
        desk.days(5);
        due("in place: some are DONE", desk.count(3), 31);
        int x = desk.count(7);
        due("in place: of two", Bench.docket(desk, "c7;d8>8"), 2);
        int[] counts = {5, 2, 1, 0, 0, 2, 0, x};
        for (int what = 0; what <= 7; what++) {
            due("in place: count(" + what + ")", desk.count(what), counts[what]);
        }
        for (int c = 0; c <= 1; c++) {
            due("in place: DAYS of " + c, desk.caseIs(c, 5), 0);
        }
        due("in place: no third", desk.caseIs(2, 0), NONE);
        due("in place: none said", desk.say(2, 0) ? 1 : 0, 0);
        due("in place: none with 0", desk.peacockIs(0, 0), 0);
        due("in place: WEIGHTS of 0", desk.peacockIs(0, 2), 0);
        due("in place: CRIES of 0", desk.peacockIs(0, 1), 0);
        due("in place: the hen has one", desk.peacockIs(8, 0), 2);
        due("in place: none alike", desk.numbers(1), 0);
        due("in place: not urgent", desk.caseIs(0, 2), 0);
        due("in place: the subject of before", desk.ofSubject(0, 0), 0);
        due("in place: quiet behind eight", desk.allQuiet(100), 8);
        due("in place: eyes are free again", desk.say(0, 8) ? 1 : 0, 1);
        due("in place: of one", Bench.docket(desk, "a1"), 1);
        due("in place: one", desk.count(1), 1);
    }

    // ---- BALLOTS

    private static void ballotSigns() {
        String all = "abcdef";
        for (int m = 2; m <= 6; m++) {
            int many = m;
            String line = all.substring(0, m);
            char last = (char) ('a' + m - 1);
            char next = (char) ('a' + m);
            Reader reader = text -> ballots(many, text);
            table("ballots of " + m, reader, line, 1, new StringBuilder(line).reverse().toString(), 1, line + ";" + line, 2,
                "" + next, -1000, "`", -1000, "" + last, -1001, "1" + next, -1001, "1`", -1001, "a" + next, -1001, "a`", -1001,
                line.substring(0, m - 1), -1000 - (m - 1), line.substring(0, m - 1) + next, -1000 - (m - 1),
                line.substring(0, m - 1) + "a", -6000 - (m - 1), line.substring(0, m - 1) + ";", -1000 - (m - 1),
                line + next, -1000 - m, line + "a", -1000 - m, line + last, -1000 - m, line + "1", -1000 - m, line + " ", -1000 - m,
                line + ":", -1000 - m, line + "<", -1000 - m, line + ";", -1001 - m, line + ";;", -1001 - m, line + ";" + next, -1001 - m,
                line + line, -1000 - m, "A", -1000, ";", -1000, "!", -1000, "\u00e1", -1000, "\u0000", -1000);
        }
    }

    private static void ballotNumbers() {
        Reader reader = text -> ballots(2, text);
        table("ballots number", reader, "ab", 1, "1ab", 1, "2ab", 2, "9ab", 9, "01ab", 1, "09ab", 9, "10ab", 10, "99ab", 99, "ab;1ba", 2,
            "98ab;ba", 99, "/ab", -1000, ":ab", -1000, "1/ab", -1001, "1:ab", -1001, "11/", -1002, "11:", -1002, "1;ab", -1001, "1", -1001,
            "11", -1002, "1a1b", -1002);
        table("ballots third digit", reader, "100ab", -2002, "001ab", -2002, "000ab", -2002, "990ab", -2002, "ab;123", -2005, "111", -2002);
        // Asked when it ends: by a letter, by the end, by what can't stand there.
        table("ballots number of 0", reader, "0ab", -3000, "00ab", -3000, "ab;0ba", -3003, "ab;00ba", -3003, "0", -3000, "00", -3000,
            "0;", -3000, "00x", -3000, "0:", -3000, "0/", -3000, "ab;ba;0", -3006, "10ab;0ba", -3005, "ab;20ba", 21);
    }

    private static void ballotLines() {
        Reader reader = text -> ballots(2, text);
        for (int many = 1; many <= 12; many++) {
            due("ballots of " + many + " lines", reader.of(times("ab", many)), many);
            due("ballots of " + many + " lines, twos", reader.of(times("2ba", many)), 2 * many);
        }
        String full = times("ab", 12) + ";";
        table("ballots, 13th line", reader, full + "ab", -4036, full + "a", -4036, full + "b", -4036, full + "1", -4036, full + "0", -4036,
            full + "9", -4036, full + "000", -4036, full + "c", -1036, full + "`", -1036, full + "/", -1036, full + ":", -1036, full + ";", -1036,
            full, -1036, times("ab", 11) + ";aa;ab", -6034, times("ab", 11) + ";0;ab", -3033);
        due("ballots of six, 13th line", ballots(6, times("99fedcba", 12) + ";f"), -4108);
        due("ballots of six, no 13th line", ballots(6, times("99fedcba", 12) + ";g"), -1108);
    }

    private static void ballotTwice() {
        Reader reader = text -> ballots(4, text);
        table("ballots twice", reader, "aa", -6001, "bb", -6001, "dd", -6001, "abb", -6002, "aba", -6002, "abca", -6003, "abcc", -6003,
            "2abca", -6004, "12abca", -6005, "abcd;aa", -6006, "abcd;abcb", -6008, "abcd;dcba", 2, "abce", -1003, "aae", -6001, "aea", -1001,
            "abcda", -1004);
    }

    // ---- THE LAW

    private static void lawSigns() {
        String kinds = "ekhx";
        String letters = "pcsvudqrtw";
        for (char sign = 0; sign < 256; sign++) {
            boolean kind = kinds.indexOf(sign) >= 0;
            boolean factor = letters.indexOf(sign) >= 0 || sign >= '0' && sign <= '9';
            due("law rule of sign " + (int) sign, law(sign + "1(1=1)"), !kind ? -1000 : sign == 'x' ? -1001 : 1);
            due("law x of sign " + (int) sign, law(sign + "(1=1)"), !kind ? -1000 : sign == 'x' ? 1 : -1001);
            if (sign != '[') due("law factor of sign " + (int) sign, law("e" + sign + "(1=1)"), factor ? 1 : -1001);
            if (sign != '[') due("law second factor of sign " + (int) sign, law("e1*" + sign + "(1=1)"), factor ? 1 : -1003);
            if ("[!(".indexOf(sign) < 0) due("law test of sign " + (int) sign, law("x(" + sign + "=1)"), factor ? 1 : -1002);
            boolean compares = sign == '<' || sign == '>' || sign == '=';
            if ("+-*/%".indexOf(sign) < 0) due("law comparing sign " + (int) sign, law("x(p" + sign + "1)"), compares ? 1 : -1003);
            boolean joins = sign == '&' || sign == '|';
            if (")+-*/%".indexOf(sign) < 0) due("law joining sign " + (int) sign, law("x(1=p" + sign + "2=2)"), joins ? 1 : -1005);
            if ("(+-*/%".indexOf(sign) < 0) due("law sign " + (int) sign + " in place of (", law("ep" + sign + "1=1)"), -1002);
            boolean reckons = "+-*/%".indexOf(sign) >= 0;
            if (sign != '(') due("law reckoning sign " + (int) sign, law("ep" + sign + "p(1=1)"), reckons ? 1 : -1002);
            due("law sign " + (int) sign + " behind a rule", law("x(1=1)" + sign + "x(1=1)"), sign == ';' ? 2 : -1006);
            if (!reckons) due("law sign " + (int) sign + " in place of ]", law("e[p" + sign + "(1=1)"), sign == ']' ? 1 : -1003);
        }
    }

    private static void lawNumbers() {
        table("law digits", EdgesOfTextsTest::law, "e0(1=1)", 1, "e1234(1=1)", 1, "e12345(1=1)", 1, "e99999(1=1)", 1, "e00000(1=1)", 1,
            "e123456(1=1)", -2006, "e000000(1=1)", -2006, "e1+12345(1=1)", 1, "e1+123456(1=1)", -2008, "x(12345=1)", 1, "x(123456=1)", -2007,
            "x(1=12345)", 1, "x(1=123456)", -2009, "e[12345](1=1)", 1, "e[123456](1=1)", -2007, "e12345p(1=1)", -1006, "e12345", -1006,
            "e123456", -2006, "x(1=123456", -2009, "e1:(1=1)", -1002);
    }

    private static void lawRules() {
        for (int many = 1; many <= 16; many++) {
            due("law of " + many + " rules", law(times("x(1=1)", many)), many);
            due("law of " + many + " rules with values", law(times("e1(1=1)", many)), many);
        }
        String full = times("x(1=1)", 16) + ";";
        table("law, 17th rule", EdgesOfTextsTest::law, full + "x(1=1)", -4112, full + "x", -4112, full + "e", -4112, full + "k", -4112,
            full + "h", -4112, full + "ez", -4112, full + "d", -1112, full + "f", -1112, full + "g", -1112, full + "w", -1112, full + "y", -1112,
            full + "1", -1112, full + ";", -1112, full, -1112, times("x(1=1)", 15) + ";x(1=;x(1=1)", -1109);
    }

    /** "5 a seventh of ( [ ! that are open in one another, at it" */
    private static void lawOpen() {
        table("law open, E", EdgesOfTextsTest::law, "e[[[[[1]]]]](1=1)", 1, "e[[[[[[1]]]]]](1=1)", 1, "e[[[[[[[1]]]]]]](1=1)", -5007,
            "e[[[[[[[", -5007, "e[[[[[[", -1007, "e[[[[[[(", -1007, "e[[[[[[!", -1007, "e[[[[[[1]]]]]]+[[[[[[1]]]]]](1=1)", 1,
            "e[[[[[[1]]]]]]+[[[[[[[1", -5021, "e[[[[[[1]+[1]]]]]](1=1)", 1, "e[[[[[[1+[1", -5009, "e[[[[[[1*[1", -5009);
        table("law open, C", EdgesOfTextsTest::law, "x(((((1=1)))))", 1, "x((((((1=1))))))", 1, "x(((((((1=1)))))))", -5007, "x(((((((", -5007,
            "x((((((", -1007, "x((((((!1=1))))))", -5007, "x((((((!", -5007, "x(((((([1]=1))))))", -5007, "x(((((![1]=1)))))", -5007,
            "x(((((!1=1)))))", 1, "x(((((!!1=1)))))", -5007, "x((((([1]=1)))))", 1, "x((((([[1]]=1)))))", -5007, "x((((([1]=[1])))))", 1,
            "x((((([1]=[1+[1]])))))", -5013);
        // The ( of the rule counts; the E of a rule stands ahead of it.
        table("law open, the rule's own", EdgesOfTextsTest::law, "x(!!!!1=1)", 1, "x(!!!!!1=1)", 1, "x(!!!!!!1=1)", -5007,
            "e[[[[[[1]]]]]](!!!!!1=1)", 1, "e[[[[[[1]]]]]](!!!!!!1=1)", -5020, "x([[[[[1]]]]]=1)", 1, "x([[[[[[1]]]]]]=1)", -5007,
            "x(1=[[[[[1]]]]])", 1, "x(1=[[[[[[1]]]]]])", -5009);
        // A ! is open till its TEST ends: in it, not behind it.
        table("law open, !", EdgesOfTextsTest::law, "x(!!!![1]=1)", 1, "x(!!!!1=[1])", 1, "x(!!!!!1=[1])", -5009, "x(!!!!![1]=1)", -5007,
            "x(!!!!!1=1&!!!!!1=1)", 1, "x(!!!!!1=1|!!!!!1=1)", 1, "x(!!!!!1=1&!!!!!!1=1)", -5016, "x(!!!!!1=1|(1=1))", 1,
            "x(!!!!!1=1&[1]=1)", 1, "x(!(!1=1&!1=1)&!(!(1=1)))", 1, "x(!(!(!(1=1))))", -5007, "x(!(!(!1=1)))", 1, "x(!(!(!!1=1)))", -5007,
            "x(!(!(1=1)&!(1=1)&!(1=1)))", 1, "x(!(!(!1=1&!1=1&!!1=1)))", -5017, "x(!!!!(1=1)&!!!!(1=1))", 1, "x(!!!!(1=1&(1=1)))", -5011);
        // What can't stand there is no seventh one.
        table("law open, other signs", EdgesOfTextsTest::law, "x((((((1(", -1008, "x((((((1=1(", -1010, "x((((((1=1!", -1010, "x((((((1!", -1008,
            "x((((((1[", -1008, "e[[[[[[1[", -1008, "e[[[[[[1(", -1008, "x((((((1=(", -1009, "x((((((1=!", -1009, "x((((((1=[", -5009);
    }

    private static void lawInPlace() {
        PeacockDesk desk = new PeacockDesk();
        Bench.docket(desk, "a1;b2");
        due("law in place: sixteen", Bench.law(desk, times("e1(p=2)", 16)), 16);
        due("law in place: by the first", desk.tried(1, 1), 1);
        due("law in place: one", Bench.law(desk, "h0(1=1)"), 1);
        due("law in place: none is taken", desk.tried(9, 2), 3);
        due("law in place: a fault", Bench.law(desk, "e1(p=3);e1(p=3"), -1014);
        due("law in place: the one before stays", desk.count(5), 1);
        due("law in place: none is taken still", desk.tried(9, 2), 3);
        due("law in place: two", Bench.law(desk, "e1(p=3);h0(1=1)"), 2);
        due("law in place: taken", desk.tried(1, 13), 3);
        due("law in place: a fault in the first", Bench.law(desk, "k"), -1001);
        due("law in place: taken still", desk.tried(1, 13), 3);
        due("law in place: two still", desk.count(5), 2);
    }

    // ---- all three

    /** "the end, too": each beginning of a right text that is no right text faults at its end. */
    private static void beginnings() {
        String docket = "a1;b23!;c4>5;d67!>8;p0";
        for (int n = 1; n <= docket.length(); n++) {
            String text = docket.substring(0, n);
            boolean right = text.matches("[a-p]\\d{1,2}!?(>[0-8])?(;[a-p]\\d{1,2}!?(>[0-8])?)*");
            due("beginning " + text, docket(text), right ? text.split(";").length : -1000 - n);
        }
        String ballots = "abc;2bca;34cba;bac";
        for (int n = 1; n <= ballots.length(); n++) {
            String text = ballots.substring(0, n);
            boolean right = text.matches("\\d{0,2}[abc]{3}(;\\d{0,2}[abc]{3})*");
            int got = ballots(3, text);
            due("beginning " + text, right ? Math.min(got, 1) : got, right ? 1 : -1000 - n);
        }
        String law = "e[1+p]*23/4%5-[c+[d]](!(1<2&q>3|!4=r)|w=9);k99999(1=1);h10(s<v);x(!!u=t)";
        for (int n = 1; n <= law.length(); n++) {
            String text = law.substring(0, n);
            int rules = text.split(";").length;
            boolean right = n == law.length() || law.charAt(n) == ';';
            due("beginning " + text, law(text), right ? rules : -1000 - n);
        }
    }

    /** Each byte in each place of a right text, beside the second reading. */
    private static void eachByte() {
        eachByte("docket", "a1;b23!;c4>5;d67!>8;p0");
        eachByte("docket", times("a1>4", 11) + ";b1>4;c9>5");
        eachByte("ballots", "abc;2bca;34cba;bac");
        eachByte("law", "e[1+p]*23/4-[c](!(1<2&q>3|!4=r)|w=9);k99999(1=1);x(!!u=t)");
    }

    private static void eachByte(String kind, String right) {
        for (int place = 0; place < right.length(); place++) {
            for (char sign = 0; sign < 256; sign++) {
                String text = right.substring(0, place) + sign + right.substring(place + 1);
                Model model = new Model();
                for (int from = 0; from < text.length(); from += 20) model.feed(Bench.five(Bench.bytes(text), from));
                int n = text.length();
                long want = kind.equals("docket") ? model.docket(n) : kind.equals("law") ? model.law(n) : model.ballots(3, n, 100);
                long got = kind.equals("docket") ? docket(text) : kind.equals("law") ? law(text) : ballots(3, text);
                due(kind + ", sign " + (int) sign + " at " + place + " of " + right, got, want);
            }
        }
    }
}
