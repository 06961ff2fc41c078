import java.util.Random;

/** Long runs of drawn calls, each answer beside that of Model. The draws are the same each time. */
public final class ModelTest {
    private final Random random;
    private PeacockDesk desk;
    private Model model;
    private final String run;
    private int calls;

    private ModelTest(long number) {
        random = new Random(number);
        run = "run " + number;
    }

    public static void main(String[] args) {
        int runs = args.length > 0 ? Integer.parseInt(args[0]) : 60;
        for (int i = 0; i < runs; i++) {
            new ModelTest(i).go();
        }
        Bench.end("ModelTest");
    }

    private void go() {
        desk = new PeacockDesk();
        model = new Model();
        calls = 0;
        while (calls < 490) {
            step();
        }
        look();
    }

    private void due(String call, long got, long want) {
        calls++;
        Bench.due(run + ", call " + calls + ": " + call, got, want);
    }

    private int up(int most) {
        return random.nextInt(most + 1);
    }

    /** Mostly between the bounds, now and then at them or beyond. */
    private int near(int least, int most) {
        int kind = up(19);
        if (kind == 0) return least - 1 - up(2);
        if (kind == 1) return most + 1 + up(2);
        if (kind == 2) return least;
        if (kind == 3) return most;
        if (kind == 4 && up(9) == 0) return random.nextInt();
        return least + up(most - least);
    }

    private void feed(int[] bytes) {
        for (int from = 0; from < bytes.length; from += 20) {
            int[] f = Bench.five(bytes, from);
            due("feed", desk.feed(f[0], f[1], f[2], f[3], f[4]), model.feed(f));
        }
    }

    private int feedText(String text) {
        feed(Bench.bytes(text));
        return up(29) == 0 ? near(1, 240) : text.length();
    }

    private int[] row(int n, int most) {
        int[] row = new int[n];
        for (int i = 0; i < n; i++) row[i] = up(most);
        return row;
    }

    private void step() {
        int kind = up(30);
        if (kind < 4) lawStep();
        else if (kind < 6) docketStep();
        else if (kind < 8) ballotStep();
        else if (kind < 15) dayStep();
        else if (kind < 19) look();
        else if (kind < 26) tapeStep();
        else if (kind < 28) dateStep();
        else keptStep();
    }

    private void lawStep() {
        String text = spoil(rules());
        int n = feedText(text);
        due("law(" + n + ") " + text, desk.law(n), model.law(n));
        due("count(5)", desk.count(5), model.count(5));
    }

    private void docketStep() {
        String text = spoil(lines());
        int n = feedText(text);
        due("docket(" + n + ") " + text, desk.docket(n), model.docket(n));
    }

    private void ballotStep() {
        int ministers = 2 + up(4);
        String text = spoil(votes(ministers));
        int what = up(3) == 0 ? near(0, ministers - 1) : near(100, 104);
        int n = feedText(text);
        int m = up(29) == 0 ? near(2, 6) : ministers;
        due("ballots(" + m + ", " + n + ", " + what + ") " + text, desk.ballots(m, n, what), model.ballots(m, n, what));
    }

    private void dayStep() {
        int n = up(3) == 0 ? near(1, 100) : 1 + up(5);
        int c = near(0, Math.max(0, model.now.cases.size() - 1));
        int p = near(0, 8);
        int kind = up(9);
        if (kind < 3) due("days(" + n + ")", desk.days(n), model.days(n));
        else if (kind == 3) due("byWhen(" + c + ", " + n + ")", desk.byWhen(c, n), model.byWhen(c, n));
        else if (kind == 4) due("allQuiet(" + n + ")", desk.allQuiet(n), model.allQuiet(n));
        else if (kind == 5) due("say(" + c + ", " + p + ")", desk.say(c, p) ? 1 : 0, model.say(c, p) ? 1 : 0);
        else {
            int what = up(2) == 0 ? near(0, 3) : up(1) == 0 ? near(10, 18) : 30 + c;
            due("tried(" + n + ", " + what + ")", desk.tried(n, what), model.tried(n, what));
        }
    }

    private void look() {
        for (int i = 0; i < 4; i++) {
            int what = near(0, 7);
            int c = near(0, Math.max(0, model.now.cases.size() - 1));
            due("count(" + what + ")", desk.count(what), model.count(what));
            due("caseIs(" + c + ", " + what + ")", desk.caseIs(c, what), model.caseIs(c, what));
        }
        int p = near(0, 8);
        int two = near(0, 1);
        int three = near(0, 2);
        int s = near(0, 15);
        int many = near(1, 4);
        due("peacockIs(" + p + ", " + three + ")", desk.peacockIs(p, three), model.peacockIs(p, three));
        due("heard(" + two + ")", desk.heard(two), model.heard(two));
        due("longest()", desk.longest(), model.longest());
        due("ofSubject(" + s + ", " + two + ")", desk.ofSubject(s, two), model.ofSubject(s, two));
        due("numbers(" + two + ")", desk.numbers(two), model.numbers(two));
        if (up(2) == 0) due("fair(" + many + ")", desk.fair(many), model.fair(many));
    }

    private void tapeStep() {
        int kind = up(5);
        int most = up(1) == 0 ? 255 : 1 + up(20);
        if (kind == 0) {
            int n = near(2, 8);
            int many = near(1, 60);
            int what = near(0, Math.max(0, Math.min(7, n - 1)));
            boolean highest = random.nextBoolean();
            feed(row(8, up(9) == 0 ? 0 : most));
            due("seats(" + n + ", " + many + ", " + highest + ", " + what + ")",
                desk.seats(n, many, highest, what), model.seats(n, many, highest, what));
        } else if (kind == 1) {
            int n = up(3) == 0 ? near(2, 8) : 2 + up(4);
            int quota = up(1) == 0 ? near(1, 2040) : 1 + up(most * 4);
            int what = up(2) == 0 ? 100 : near(0, Math.max(0, Math.min(7, n - 1)));
            feed(row(8, most));
            due("power(" + n + ", " + quota + ", " + what + ")", desk.power(n, quota, what), model.power(n, quota, what));
        } else if (kind == 2) {
            int n = near(2, 12);
            int what = near(0, 2);
            feed(row(12, up(9) == 0 ? 10 : 9));
            due("quills(" + n + ", " + what + ")", desk.quills(n, what), model.quills(n, what));
        } else if (kind == 3) {
            int n = near(1, 10);
            int from = up(1) == 0 ? near(0, 255) : up(most);
            feed(row(20, most));
            due("pickedUp(" + n + ", " + from + ")", desk.pickedUp(n, from), model.pickedUp(n, from));
        } else if (kind == 4) {
            int n = near(2, 12);
            int many = up(2) > 0 ? 1 + up(3) : near(1, Math.max(1, Math.min(n, 12)));
            int[] row = row(12, most);
            for (int i = 0; i < 12; i++) if (row[i] == 0 && up(9) > 0) row[i] = 1 + up(254);
            feed(row);
            due("tails(" + n + ", " + many + ")", desk.tails(n, many), model.tails(n, many));
        } else {
            checkStep();
        }
    }

    private void checkStep() {
        int n = near(0, 24);
        int[] row = new int[24];
        for (int i = 0; i < 24; i++) {
            boolean there = i < model.now.cases.size();
            row[i] = !there ? 255 : model.now.cases.get(i).at == Model.DONE ? 0 : model.now.cases.get(i).weight;
            if (up(39) == 0) row[i] = up(255);
        }
        feed(row);
        due("check(" + n + ")", desk.check(n), model.check(n));
    }

    private void dateStep() {
        int year = near(1600, 2999);
        int month = near(1, 12);
        int day = near(1, 31);
        int from = near(1, 366);
        int to = up(1) == 0 ? near(1, 366) : from + up(20);
        int across = near(0, 99);
        int along = near(0, 99);
        int fast = near(1, 99);
        due("weekday(" + day + ", " + month + ", " + year + ")", desk.weekday(day, month, year), Model.weekday(day, month, year));
        due("work(" + year + ", " + from + ", " + to + ")", desk.work(year, from, to), Model.work(year, from, to));
        due("cry(" + across + ", " + along + ", " + fast + ")", desk.cry(across, along, fast), Model.cry(across, along, fast));
    }

    private void keptStep() {
        int kind = up(3);
        int x = near(0, 65535);
        if (kind == 0) due("keep()", desk.keep(), model.keep());
        else if (kind == 1) due("undo()", desk.undo() ? 1 : 0, model.undo() ? 1 : 0);
        else if (kind == 2) due("seed(" + x + ")", desk.seed(x) ? 1 : 0, model.seed(x) ? 1 : 0);
        else feed(row(20, 255));
    }

    // ---- texts
    private String spoil(String text) {
        if (up(5) > 0 || text.isEmpty()) return text;
        String signs = "abcdefghijklmnopqrstuvwxyz0123456789;!()[]<>=+-*/%&| ";
        int at = up(text.length());
        String one = "" + signs.charAt(up(signs.length() - 1));
        String tail = at < text.length() ? text.substring(at + (up(1) == 0 ? 1 : 0)) : "";
        String out = up(3) == 0 ? text.substring(0, at) : text.substring(0, at) + one + tail;
        return out.isEmpty() ? one : out;
    }

    private String lines() {
        StringBuilder sb = new StringBuilder();
        int n = up(9) == 0 ? 25 : 1 + up(up(1) == 0 ? 23 : 9);
        int subjects = up(15);
        int takers = up(8);
        boolean brief = n > 16;
        for (int i = 0; i < n; i++) {
            if (i > 0) sb.append(';');
            sb.append((char) ('a' + up(subjects)));
            sb.append(up(brief ? 9 : 99));
            if (up(3) == 0) sb.append('!');
            if (up(2) == 0) sb.append('>').append(up(takers));
        }
        return sb.length() > 160 ? sb.substring(0, 160) : sb.toString();
    }

    private String votes(int ministers) {
        StringBuilder sb = new StringBuilder();
        int n = up(9) == 0 ? 13 : 1 + up(11);
        int like = up(2) == 0 ? 3 : 12;
        for (int i = 0; i < n; i++) {
            if (i > 0) sb.append(';');
            if (up(1) == 0) sb.append(up(19) == 0 ? up(99) : 1 + up(like));
            StringBuilder all = new StringBuilder("abcdef".substring(0, ministers));
            while (all.length() > 0) {
                int at = up(all.length() - 1);
                sb.append(all.charAt(at));
                all.deleteCharAt(at);
            }
        }
        return sb.length() > 120 ? sb.substring(0, 120) : sb.toString();
    }

    private String rules() {
        StringBuilder sb = new StringBuilder();
        int n = up(19) == 0 ? 17 : 1 + up(5);
        for (int i = 0; i < n; i++) {
            StringBuilder rule = new StringBuilder();
            char kind = "eeekkhhx".charAt(i == 0 && up(2) > 0 ? 0 : up(7));
            rule.append(kind);
            boolean brief = n > 8;
            if (kind != 'x') rule.append(brief ? "" + up(9) : sum(2, kind == 'e' ? "pcsvudqrt" : "pcsvudqrtw"));
            rule.append('(').append(brief ? "1=1" : up(3) == 0 ? "1=1" : choice(2)).append(')');
            if (sb.length() + rule.length() + 1 > 240) break;
            if (i > 0) sb.append(';');
            sb.append(rule);
        }
        return sb.length() == 0 ? "e1(1=1)" : sb.toString();
    }

    private String choice(int deep) {
        StringBuilder sb = new StringBuilder(test(deep));
        while (up(2) == 0) sb.append(up(1) == 0 ? '&' : '|').append(test(deep));
        return sb.toString();
    }

    private String test(int deep) {
        int kind = up(7);
        if (deep > 0 && kind == 0) return "(" + choice(deep - 1) + ")";
        if (kind == 1) return "!" + test(deep > 0 ? deep - 1 : up(2) == 0 ? 1 : 0);
        return sum(1, "pcsvudqrtw") + "<>=".charAt(up(2)) + sum(1, "pcsvudqrtw");
    }

    private String sum(int deep, String letters) {
        StringBuilder sb = new StringBuilder(factor(deep, letters));
        while (up(2) == 0) sb.append("+-*/%".charAt(up(4))).append(factor(deep, letters));
        return sb.toString();
    }

    private String factor(int deep, String letters) {
        int kind = up(9);
        if (deep > 0 && kind == 0) return "[" + sum(deep - 1, letters) + "]";
        if (kind < 4) return "" + (up(9) == 0 ? up(99999) : up(12));
        return "" + letters.charAt(up(letters.length() - 1));
    }
}
