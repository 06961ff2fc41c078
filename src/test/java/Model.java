import java.time.DayOfWeek;
import java.time.LocalDate;
import java.time.Year;
import java.util.ArrayList;
import java.util.Arrays;
import java.util.HashSet;
import java.util.List;
import java.util.Set;

/**
 * A second reading of the document, as naive as can be: laws are read from their text at each asking,
 * orders are tried one by one, beats are counted. It shares no line with PeacockDesk.
 */
final class Model {
    static final int WAITING = -1;
    static final int DONE = -2;

    static final class Fault extends RuntimeException {
        final int code;

        Fault(int kind, int place) {
            super(null, null, false, false);
            code = -1000 * kind - place;
        }
    }

    static final class Refused extends RuntimeException {
        Refused() {
            super(null, null, false, false);
        }
    }

    static final class Case {
        int subject, weight, urgent, at = WAITING, days;

        Case copy() {
            Case c = new Case();
            c.subject = subject;
            c.weight = weight;
            c.urgent = urgent;
            c.at = at;
            c.days = days;
            return c;
        }
    }

    static final class State {
        List<Case> cases = new ArrayList<>();
        int[] cries = new int[9];
        int day;
        int x = 1;

        State copy() {
            State s = new State();
            for (Case c : cases) s.cases.add(c.copy());
            s.cries = cries.clone();
            s.day = day;
            s.x = x;
            return s;
        }

        int has(int p) {
            int n = 0;
            for (Case c : cases) if (c.at == p) n++;
            return n;
        }

        int bits(int at) {
            int b = 0;
            for (int i = 0; i < cases.size(); i++) if (cases.get(i).at == at) b |= 1 << i;
            return b;
        }

        int draw() {
            x = (int) ((25173L * x + 13849L) % 65536L);
            return x % 10;
        }

        int allCries() {
            return Arrays.stream(cries).sum();
        }
    }

    // ---- a text and its place
    String text = "";
    int at;

    char peek() {
        return at < text.length() ? text.charAt(at) : '\uffff';
    }

    Fault cant() {
        return new Fault(1, at);
    }

    void want(char c) {
        if (peek() != c) throw cant();
        at++;
    }

    boolean digit() {
        return peek() >= '0' && peek() <= '9';
    }

    int number(int most) {
        int from = at;
        if (!digit()) throw cant();
        while (digit()) {
            if (at - from == most) throw new Fault(2, at);
            at++;
        }
        return Integer.parseInt(text.substring(from, at));
    }

    // ---- the state of a desk
    final List<Integer> tape = new ArrayList<>();
    List<String> rules = new ArrayList<>();
    State now = new State();
    State kept = null;

    boolean refusesTape(int n, int least, int most) {
        return n < least || n > most || n > tape.size();
    }

    int[] takeTape(int n) {
        int[] b = new int[n];
        for (int i = 0; i < n; i++) b[i] = tape.get(i);
        tape.clear();
        return b;
    }

    void takeText(int n) {
        StringBuilder sb = new StringBuilder();
        for (int b : takeTape(n)) sb.append((char) b);
        text = sb.toString();
        at = 0;
    }

    int feed(int... five) {
        if (tape.size() + 20 > 260) return -1;
        for (int v : five) for (int k = 3; k >= 0; k--) tape.add((v >> (8 * k)) & 0xff);
        return tape.size();
    }

    // ---- the law: checked first, then asked from its text
    int law(int n) {
        if (refusesTape(n, 1, 240)) return -1;
        takeText(n);
        List<String> found = new ArrayList<>();
        try {
            while (true) {
                char k = peek();
                if ("ekhx".indexOf(k) < 0) throw cant();
                if (found.size() == 16) throw new Fault(4, at);
                int from = at++;
                if (k != 'x') sum(0, null, true);
                want('(');
                choice(1, null, true);
                want(')');
                found.add(text.substring(from, at));
                if (at == text.length()) break;
                want(';');
            }
        } catch (Fault f) {
            return f.code;
        }
        rules = found;
        return rules.size();
    }

    /** asked false: read over, nothing is reckoned (as the check of the grammar does, too). */
    boolean choice(int open, int[] facts, boolean readOnly) {
        boolean any = false;
        while (true) {
            boolean all = true;
            while (true) {
                boolean skip = readOnly || any || !all;
                boolean t = test(open, facts, skip);
                if (!skip) all = t;
                if (peek() != '&') break;
                at++;
            }
            if (!readOnly && !any) any = all;
            if (peek() != '|') return any;
            at++;
        }
    }

    boolean test(int open, int[] facts, boolean readOnly) {
        char c = peek();
        if (c == '!' || c == '(') {
            if (open == 6) throw new Fault(5, at);
            at++;
            if (c == '!') return !test(open + 1, facts, readOnly);
            boolean r = choice(open + 1, facts, readOnly);
            want(')');
            return r;
        }
        int a = sum(open, facts, readOnly);
        char s = peek();
        if (s != '<' && s != '>' && s != '=') throw cant();
        at++;
        int b = sum(open, facts, readOnly);
        return s == '<' ? a < b : s == '>' ? a > b : a == b;
    }

    int sum(int open, int[] facts, boolean readOnly) {
        int v = term(open, facts, readOnly);
        while (peek() == '+' || peek() == '-') {
            char s = text.charAt(at++);
            int w = term(open, facts, readOnly);
            v = (int) (s == '+' ? (long) v + w : (long) v - w);
        }
        return v;
    }

    int term(int open, int[] facts, boolean readOnly) {
        int v = factor(open, facts, readOnly);
        while (peek() == '*' || peek() == '/' || peek() == '%') {
            char s = text.charAt(at++);
            int w = factor(open, facts, readOnly);
            if (readOnly) continue;
            if (s != '*' && w == 0) throw new Refused();
            v = (int) (s == '*' ? (long) v * w : s == '/' ? (long) v / w : (long) v % w);
        }
        return v;
    }

    int factor(int open, int[] facts, boolean readOnly) {
        char c = peek();
        if (c == '[') {
            if (open == 6) throw new Fault(5, at);
            at++;
            int v = sum(open + 1, facts, readOnly);
            want(']');
            return v;
        }
        int letter = "pcsvudqrtw".indexOf(c);
        if (letter >= 0) {
            at++;
            return readOnly ? 0 : facts[letter];
        }
        return number(5);
    }

    int[] facts(State s, int p, int c, int w) {
        Case k = c < 0 ? null : s.cases.get(c);
        return new int[] {p, c < 0 ? 24 : c, c < 0 ? 16 : k.subject, c < 0 ? 0 : k.weight, c < 0 ? 0 : k.urgent,
            c < 0 ? 0 : k.days, s.has(p), s.cries[p], s.day % 100, w};
    }

    boolean holds(String rule, int testFrom, int[] f) {
        text = rule;
        at = testFrom;
        try {
            want('(');
            return choice(1, f, false);
        } catch (Refused r) {
            return false;
        }
    }

    int endOfValue(String rule) {
        text = rule;
        at = 1;
        if (rule.charAt(0) != 'x') sum(0, null, true);
        return at;
    }

    int ask(char kind, int[] f, int most, int none) {
        for (String rule : rules) {
            if (rule.charAt(0) != kind) continue;
            if (!holds(rule, endOfValue(rule), f)) continue;
            text = rule;
            at = 1;
            try {
                int v = sum(0, f, false);
                return v < 0 ? 0 : v > most ? most : v;
            } catch (Refused r) {
                return 0;
            }
        }
        return none;
    }

    boolean moults(int[] f) {
        for (String rule : rules) if (rule.charAt(0) == 'x' && holds(rule, 1, f)) return true;
        return false;
    }

    // ---- a day
    void day(State s) {
        if (s.day == 9999) return;
        int n = s.cases.size();
        for (int c = 0; c < n; c++) {
            if (s.cases.get(c).at != WAITING) continue;
            int best = -1;
            int most = 0;
            for (int p = 8; p >= 0; p--) {
                if (s.has(p) >= 12) continue;
                int e = ask('e', facts(s, p, c, 0), 9999, 0);
                if (e > 0 && e >= most) {
                    best = p;
                    most = e;
                }
            }
            if (best >= 0) s.cases.get(c).at = best;
        }
        for (int p = 0; p < 8; p++) {
            int w = s.draw();
            if (moults(facts(s, p, -1, w))) {
                for (Case k : s.cases) if (k.at == p) k.at = WAITING;
                continue;
            }
            int best = -1;
            int most = 0;
            for (int c = n - 1; c >= 0; c--) {
                if (s.cases.get(c).at != p) continue;
                int k = ask('k', facts(s, p, c, w), 9999, 1);
                if (k > 0 && k >= most) {
                    best = c;
                    most = k;
                }
            }
            if (best < 0) continue;
            int h = ask('h', facts(s, p, best, w), 10, 10);
            if (s.cries[p] < 9999) s.cries[p]++;
            if (s.draw() < h) s.cases.get(best).at = DONE;
        }
        for (Case k : s.cases) if (k.at == 8 && k.days >= 7) k.at = DONE;
        for (Case k : s.cases) if (k.at != DONE && k.days < 9999) k.days++;
        s.day++;
    }

    // ---- promises 2, 5, 7 to 17
    boolean say(int c, int p) {
        if (c < 0 || c >= now.cases.size() || p < 0 || p > 8 || now.has(p) >= 12) return false;
        now.cases.get(c).at = p;
        return true;
    }

    int docket(int n) {
        if (refusesTape(n, 1, 160)) return -1;
        takeText(n);
        List<Case> found = new ArrayList<>();
        int[] used = new int[9];
        try {
            while (true) {
                Case k = new Case();
                if (peek() < 'a' || peek() > 'p') throw cant();
                if (found.size() == 24) throw new Fault(4, at);
                k.subject = text.charAt(at++) - 'a';
                k.weight = number(2);
                if (peek() == '!') {
                    k.urgent = 1;
                    at++;
                }
                if (peek() == '>') {
                    at++;
                    if (peek() < '0' || peek() > '8') throw cant();
                    int p = peek() - '0';
                    if (++used[p] > 12) throw new Fault(6, at);
                    k.at = p;
                    at++;
                }
                found.add(k);
                if (at == text.length()) break;
                want(';');
            }
        } catch (Fault f) {
            return f.code;
        }
        now.cases = found;
        now.cries = new int[9];
        return found.size();
    }

    int days(int n) {
        if (n < 1 || n > 100) return -1;
        int before = Integer.bitCount(now.bits(DONE));
        for (int i = 0; i < n; i++) day(now);
        return Integer.bitCount(now.bits(DONE)) - before;
    }

    int tried(int n, int what) {
        if (n < 1 || n > 100) return -1;
        State s = now.copy();
        for (int i = 0; i < n; i++) day(s);
        if (what == 0) return Integer.bitCount(s.bits(DONE)) - Integer.bitCount(now.bits(DONE));
        if (what == 1) return s.allCries() - now.allCries();
        if (what == 2) return s.bits(WAITING);
        if (what == 3) return s.bits(DONE);
        if (what >= 10 && what <= 18) return s.bits(what - 10);
        if (what >= 30 && what - 30 < s.cases.size()) return s.cases.get(what - 30).days;
        return -1;
    }

    int caseIs(int c, int what) {
        if (c < 0 || c >= now.cases.size()) return -1;
        Case k = now.cases.get(c);
        return switch (what) {
            case 0 -> k.subject;
            case 1 -> k.weight;
            case 2 -> k.urgent;
            case 3 -> k.at == WAITING ? 0 : k.at == DONE ? 2 : 1;
            case 4 -> k.at >= 0 ? k.at : -2;
            case 5 -> k.days;
            default -> -1;
        };
    }

    int peacockIs(int p, int what) {
        if (p < 0 || p > 8) return -1;
        int sum = 0;
        for (Case k : now.cases) if (k.at == p) sum += k.weight;
        return what == 0 ? now.bits(p) : what == 1 ? now.cries[p] : what == 2 ? sum : -1;
    }

    int byWhen(int c, int n) {
        if (c < 0 || c >= now.cases.size() || n < 1 || n > 100) return -1;
        State s = now.copy();
        if (s.cases.get(c).at == DONE) return 0;
        for (int i = 1; i <= n; i++) {
            day(s);
            if (s.cases.get(c).at == DONE) return i;
        }
        return -2;
    }

    int allQuiet(int n) {
        if (n < 1 || n > 100) return -1;
        State s = now.copy();
        for (int i = 0; i <= n; i++) {
            if (Integer.bitCount(s.bits(DONE)) == s.cases.size()) return i;
            if (i < n) day(s);
        }
        return -2;
    }

    int heard(int what) {
        int who = 0;
        for (int p = 0; p < 9; p++) if (now.cries[p] > now.cries[who]) who = p;
        return what == 0 ? who : what == 1 ? now.cries[who] : -1;
    }

    int longest() {
        int best = -2;
        for (int c = 0; c < now.cases.size(); c++) {
            if (now.cases.get(c).at == DONE) continue;
            if (best < 0 || now.cases.get(c).days > now.cases.get(best).days) best = c;
        }
        return best;
    }

    int ofSubject(int s, int what) {
        if (s < 0 || s > 15 || what < 0 || what > 1) return -1;
        int many = 0;
        int sum = 0;
        for (Case k : now.cases) {
            if (k.subject == s) {
                many++;
                if (k.at != DONE) sum += k.weight;
            }
        }
        return what == 0 ? many : sum;
    }

    int numbers(int what) {
        if (what == 0) {
            int hi = 0;
            int lo = 99;
            for (int p = 0; p < 9; p++) {
                hi = Math.max(hi, now.has(p));
                lo = Math.min(lo, now.has(p));
            }
            return hi - lo;
        }
        if (what != 1) return -1;
        int twos = 0;
        for (int s = 0; s < 16; s++) {
            int m = ofSubject(s, 0);
            twos += m * (m - 1) / 2;
        }
        return twos;
    }

    int fair(int many) {
        if (many < 1 || many > 4) return -1;
        List<Integer> w = new ArrayList<>();
        for (Case k : now.cases) if (k.at != DONE) w.add(k.weight);
        if (w.size() > 10) return -4;
        int ways = 1;
        for (int i = 0; i < w.size(); i++) ways *= many;
        int best = Integer.MAX_VALUE;
        for (int way = 0; way < ways; way++) {
            int[] sums = new int[4];
            int rest = way;
            for (int v : w) {
                sums[rest % many] += v;
                rest /= many;
            }
            best = Math.min(best, Arrays.stream(sums).max().getAsInt());
        }
        return best;
    }

    // ---- promise 6
    int ballots(int ministers, int n, int what) {
        if (ministers < 2 || ministers > 6 || refusesTape(n, 1, 120)) return -1;
        if (!(what >= 100 && what <= 104 || what >= 0 && what < ministers)) return -1;
        takeText(n);
        List<String> all = new ArrayList<>();
        int lines = 0;
        try {
            while (true) {
                boolean letter = peek() >= 'a' && peek() < 'a' + ministers;
                if (!digit() && !letter) throw cant();
                if (lines == 12) throw new Fault(4, at);
                int like = 1;
                if (digit()) {
                    int from = at;
                    like = number(2);
                    if (like == 0) throw new Fault(3, from);
                }
                StringBuilder b = new StringBuilder();
                while (b.length() < ministers) {
                    if (peek() < 'a' || peek() >= 'a' + ministers) throw cant();
                    if (b.indexOf("" + peek()) >= 0) throw new Fault(6, at);
                    b.append(text.charAt(at++));
                }
                for (int i = 0; i < like; i++) all.add(b.toString());
                lines++;
                if (at == text.length()) break;
                want(';');
            }
        } catch (Fault f) {
            return f.code;
        }
        return counted(all, ministers, what);
    }

    static int counted(List<String> all, int ministers, int what) {
        int[] firsts = new int[ministers];
        int[] points = new int[ministers];
        for (String b : all) {
            firsts[b.charAt(0) - 'a']++;
            for (int i = 0; i < ministers; i++) points[b.charAt(i) - 'a'] += ministers - 1 - i;
        }
        if (what < 100) return points[what];
        if (what == 100) return all.size();
        if (what == 101) return most(firsts);
        if (what == 102) return most(points);
        if (what == 103) {
            for (int m = 0; m < ministers; m++) {
                boolean good = true;
                for (int o = 0; o < ministers; o++) {
                    if (o == m) continue;
                    int ahead = 0;
                    for (String b : all) if (b.indexOf('a' + m) < b.indexOf('a' + o)) ahead++;
                    good &= ahead > all.size() - ahead;
                }
                if (good) return m;
            }
            return -2;
        }
        List<String> left = new ArrayList<>(all);
        Set<Character> in = new HashSet<>();
        for (int m = 0; m < ministers; m++) in.add((char) ('a' + m));
        while (in.size() > 1) {
            char out = 0;
            int fewest = Integer.MAX_VALUE;
            for (char m = (char) ('a' + ministers - 1); m >= 'a'; m--) {
                if (!in.contains(m)) continue;
                int f = 0;
                for (String b : left) if (b.charAt(0) == m) f++;
                if (f < fewest) {
                    fewest = f;
                    out = m;
                }
            }
            in.remove(out);
            for (int i = 0; i < left.size(); i++) left.set(i, left.get(i).replace("" + out, ""));
        }
        return in.iterator().next() - 'a';
    }

    static int most(int[] row) {
        int best = 0;
        for (int i = 0; i < row.length; i++) if (row[i] > row[best]) best = i;
        return best;
    }

    // ---- promises 18 to 25
    int seats(int n, int many, boolean highest, int what) {
        if (refusesTape(n, 2, 8) || many < 1 || many > 60 || what < 0 || what >= n) return -1;
        int[] v = takeTape(n);
        int all = Arrays.stream(v).sum();
        if (all == 0) return -2;
        int[] got = new int[n];
        if (highest) {
            for (int k = 0; k < many; k++) {
                int best = 0;
                for (int i = 1; i < n; i++) {
                    // A hair is the rounding only: quotients of these numbers lie further apart.
                    if ((double) v[i] / (got[i] + 1) > (double) v[best] / (got[best] + 1) + 1e-9) best = i;
                }
                got[best]++;
            }
            return got[what];
        }
        boolean[] more = new boolean[n];
        int given = 0;
        for (int i = 0; i < n; i++) given += got[i] = v[i] * many / all;
        for (; given < many; given++) {
            int best = -1;
            for (int i = 0; i < n; i++) {
                if (!more[i] && (best < 0 || v[i] * many % all > v[best] * many % all)) best = i;
            }
            more[best] = true;
            got[best]++;
        }
        return got[what];
    }

    int power(int n, int quota, int what) {
        if (refusesTape(n, 2, 8) || quota < 1 || quota > 2040 || !(what == 100 || what >= 0 && what < n)) return -1;
        int[] w = takeTape(n);
        int[] has = new int[n];
        orders(w, quota, new ArrayList<>(), has);
        return what == 100 ? most(has) : has[what];
    }

    static void orders(int[] w, int quota, List<Integer> come, int[] has) {
        if (come.size() == w.length) {
            int sum = 0;
            for (int i : come) {
                sum += w[i];
                if (sum >= quota) {
                    has[i]++;
                    return;
                }
            }
            return;
        }
        for (int i = 0; i < w.length; i++) {
            if (come.contains(i)) continue;
            come.add(i);
            orders(w, quota, come, has);
            come.remove(come.size() - 1);
        }
    }

    int quills(int n, int what) {
        if (refusesTape(n, 2, 12) || what < 0 || what > 2) return -1;
        int[] d = takeTape(n);
        for (int v : d) if (v > 9) return -3;
        if (what == 0) return right(d) ? 1 : 0;
        if (what == 1) {
            for (int v = 0; v <= 9; v++) {
                d[n - 1] = v;
                if (right(d)) return v;
            }
            return 10;
        }
        int ways = 0;
        for (int i = 0; i < n; i++) {
            int was = d[i];
            for (int v = 0; v <= 9; v++) {
                d[i] = v;
                if (v != was && right(d)) ways++;
            }
            d[i] = was;
        }
        return ways;
    }

    static boolean right(int[] d) {
        int sum = 0;
        int place = 1;
        for (int i = d.length - 1; i >= 0; i--) sum += d[i] * place++;
        return sum % 11 == 0;
    }

    static int weekday(int day, int month, int year) {
        if (year < 1600 || year > 2999 || month < 1 || month > 12) return -1;
        if (day < 1 || day > LocalDate.of(year, month, 1).lengthOfMonth()) return -2;
        return LocalDate.of(year, month, day).getDayOfWeek().getValue() - 1;
    }

    static int work(int year, int from, int to) {
        if (year < 1600 || year > 2999 || from < 1 || to < from || to > Year.of(year).length()) return -1;
        int sum = 0;
        LocalDate end = LocalDate.ofYearDay(year, to);
        for (LocalDate d = LocalDate.ofYearDay(year, from); d.isBefore(end); d = d.plusDays(1)) {
            if (d.getDayOfWeek() != DayOfWeek.SATURDAY && d.getDayOfWeek() != DayOfWeek.SUNDAY) sum++;
        }
        return sum;
    }

    static int cry(int across, int along, int fast) {
        if (across < 0 || across > 99 || along < 0 || along > 99 || fast < 1 || fast > 99) return -1;
        // Where the way is whole the root is exact; else it is far enough from a whole number of seconds.
        return (int) Math.ceil(2 * Math.sqrt(across * across + along * along) / fast);
    }

    int pickedUp(int n, int from) {
        if (n < 1 || n > 10 || from < 0 || from > 255 || refusesTape(2 * n, 2, 20)) return -1;
        int[] b = takeTape(2 * n);
        return walk(b, n, from, 0, 0, 0);
    }

    /** From each place the next feather not gone by on either hand is walked to: nothing else is worth a step. */
    static int walk(int[] b, int n, int place, int minute, int gone, int had) {
        for (int i = 0; i < n; i++) {
            if (b[2 * i] == place && (gone >> i & 1) == 0) {
                gone |= 1 << i;
                if (minute <= b[2 * i + 1]) had++;
            }
        }
        int best = had;
        int left = -1;
        int right = -1;
        for (int i = 0; i < n; i++) {
            if ((gone >> i & 1) == 1) continue;
            int at = b[2 * i];
            if (at < place && (left < 0 || at > left)) left = at;
            if (at > place && (right < 0 || at < right)) right = at;
        }
        if (left >= 0) best = Math.max(best, walk(b, n, left, minute + place - left, gone, had));
        if (right >= 0) best = Math.max(best, walk(b, n, right, minute + right - place, gone, had));
        return best;
    }

    int tails(int n, int many) {
        if (refusesTape(n, 2, 12) || many < 1 || many > n) return -1;
        int[] e = takeTape(n);
        for (int v : e) if (v == 0) return -3;
        for (int beat = 1; beat <= 100000; beat++) {
            int shiver = 0;
            for (int v : e) if (beat % v == 0) shiver++;
            if (shiver >= many) return beat;
        }
        return -2;
    }

    // ---- promises 26 to 30
    boolean seed(int x) {
        if (x < 0 || x > 65535) return false;
        now.x = x;
        return true;
    }

    int keep() {
        kept = now.copy();
        return kept.day;
    }

    boolean undo() {
        if (kept == null) return false;
        for (int i = 0; i < kept.cases.size() && i < now.cases.size(); i++) {
            now.cases.get(i).at = kept.cases.get(i).at;
            now.cases.get(i).days = kept.cases.get(i).days;
        }
        now.cries = kept.cries.clone();
        now.day = kept.day;
        now.x = kept.x;
        return true;
    }

    int check(int n) {
        if (refusesTape(n, 0, 24)) return -2;
        int[] b = takeTape(n);
        for (int i = 0; i < n; i++) {
            int due = 255;
            if (i < now.cases.size()) due = now.cases.get(i).at == DONE ? 0 : now.cases.get(i).weight;
            if (b[i] != due) return i;
        }
        return -1;
    }

    int count(int what) {
        return switch (what) {
            case 0 -> now.day;
            case 1 -> now.cases.size();
            case 2 -> now.bits(WAITING);
            case 3 -> now.bits(DONE);
            case 4 -> now.allCries();
            case 5 -> rules.size();
            case 6 -> tape.size();
            case 7 -> now.x;
            default -> -1;
        };
    }
}
