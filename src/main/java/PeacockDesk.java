import java.util.Arrays;

/**
 * The complaints department of ../shared/DOC.md: nine peacocks on a terrace.
 *
 * All rows are made in constructors and used again, so that no call makes an object.
 */
public final class PeacockDesk {
    public static final int NONE = -1;

    // Other answers of the document that are no numbers of things.
    private static final int NOT_SO = -2;
    private static final int BAD_BYTE = -3;
    private static final int TOO_MANY = -4;

    private static final int PEACOCKS = 9;
    private static final int HEN = 8;
    private static final int EYES = 12;
    private static final int CASES = 24;
    private static final int SUBJECTS = 16;
    private static final int MOST_DAYS = 100;
    private static final int HIGHEST = 9999;

    // Where a complaint is: with a peacock (0 to 8), or one of these.
    private static final int WAITING = 9;
    private static final int DONE = 10;
    private static final int PLACES = 11;

    private static final int FAULT_SIGN = 1;
    private static final int FAULT_DIGIT = 2;
    private static final int FAULT_ZERO = 3;
    private static final int FAULT_MANY = 4;
    private static final int FAULT_DEEP = 5;
    private static final int FAULT_TAKEN = 6;

    // A text is read into the spare one, so that a fault leaves the one before as it is.
    private Docket cases = new Docket();
    private Docket spareCases = new Docket();
    private Law rules = new Law();
    private Law spareRules = new Law();

    private final Tape tape = new Tape();
    private final Cabinet cabinet = new Cabinet();
    private final Sharing sharing = new Sharing();
    private final Parties parties = new Parties();
    private final Path path = new Path();
    private final Tails shivers = new Tails();
    private final Terrace now = new Terrace();
    private final Terrace trial = new Terrace();
    private final Terrace kept = new Terrace();
    private boolean anyKept = false;

    public PeacockDesk() {
        now.x = 1;
    }

    public boolean say(int c, int p) {
        if (!isCase(c) || !isPeacock(p) || !now.hasEye(p)) {
            return false;
        }
        now.give(c, p);
        return true;
    }

    public int feed(int a, int b, int c, int d, int e) {
        if (!tape.hasRoom(20)) {
            return NONE;
        }
        tape.add(a);
        tape.add(b);
        tape.add(c);
        tape.add(d);
        tape.add(e);
        return tape.size;
    }

    public int law(int n) {
        if (!tape.take(n, 1, 240)) {
            return NONE;
        }
        if (!LawReader.readInto(spareRules, tape)) {
            return tape.fault;
        }
        Law before = rules;
        rules = spareRules;
        spareRules = before;
        return rules.size;
    }

    public int docket(int n) {
        if (!tape.take(n, 1, 160)) {
            return NONE;
        }
        if (!spareCases.readFrom(tape)) {
            return tape.fault;
        }
        Docket before = cases;
        cases = spareCases;
        spareCases = before;
        now.begin(cases);
        return cases.size;
    }

    public int ballots(int ministers, int n, int what) {
        if (ministers < 2 || ministers > Cabinet.MINISTERS) {
            return NONE;
        }
        boolean known = what >= 0 && what < ministers || what >= 100 && what <= 104;
        if (!known || !tape.take(n, 1, 120)) {
            return NONE;
        }
        return cabinet.readFrom(tape, ministers) ? cabinet.answer(what) : tape.fault;
    }

    public int days(int n) {
        if (!areDays(n)) {
            return NONE;
        }
        int before = now.load[DONE];
        goOn(now, n);
        return now.load[DONE] - before;
    }

    public int tried(int n, int what) {
        boolean ofAll = what >= 0 && what <= 3;
        boolean ofPeacock = what >= 10 && what < 10 + PEACOCKS;
        boolean ofCase = what >= 30 && what < 30 + now.cases;
        if (!areDays(n) || !(ofAll || ofPeacock || ofCase)) {
            return NONE;
        }
        trial.copy(now);
        goOn(trial, n);
        if (ofCase) {
            return trial.age[what - 30];
        }
        if (ofPeacock) {
            return trial.bitsAt(what - 10);
        }
        switch (what) {
            case 0:
                return trial.load[DONE] - now.load[DONE];
            case 1:
                return trial.criesOfAll() - now.criesOfAll();
            case 2:
                return trial.bitsAt(WAITING);
            default:
                return trial.bitsAt(DONE);
        }
    }

    public int caseIs(int c, int what) {
        if (!isCase(c)) {
            return NONE;
        }
        int place = now.place[c];
        switch (what) {
            case 0:
                return cases.subject[c];
            case 1:
                return cases.weight[c];
            case 2:
                return cases.urgent[c];
            case 3:
                return place == WAITING ? 0 : place == DONE ? 2 : 1;
            case 4:
                return isPeacock(place) ? place : NOT_SO;
            case 5:
                return now.age[c];
            default:
                return NONE;
        }
    }

    public int peacockIs(int p, int what) {
        if (!isPeacock(p)) {
            return NONE;
        }
        switch (what) {
            case 0:
                return now.bitsAt(p);
            case 1:
                return now.cries[p];
            case 2:
                return now.weightsAt(p, cases);
            default:
                return NONE;
        }
    }

    public int byWhen(int c, int n) {
        if (!isCase(c) || !areDays(n)) {
            return NONE;
        }
        trial.copy(now);
        for (int i = 0; i <= n; i++) {
            if (trial.place[c] == DONE) {
                return i;
            }
            goOn(trial, 1);
        }
        return NOT_SO;
    }

    public int allQuiet(int n) {
        if (!areDays(n)) {
            return NONE;
        }
        trial.copy(now);
        for (int i = 0; i <= n; i++) {
            if (trial.load[DONE] == trial.cases) {
                return i;
            }
            goOn(trial, 1);
        }
        return NOT_SO;
    }

    public int heard(int what) {
        if (what != 0 && what != 1) {
            return NONE;
        }
        int who = Reckoner.firstOfMost(now.cries, PEACOCKS);
        return what == 0 ? who : now.cries[who];
    }

    public int longest() {
        int best = NOT_SO;
        int most = -1;
        for (int c = 0; c < now.cases; c++) {
            if (now.place[c] != DONE && now.age[c] > most) {
                best = c;
                most = now.age[c];
            }
        }
        return best;
    }

    public int ofSubject(int s, int what) {
        if (s < 0 || s >= SUBJECTS || what != 0 && what != 1) {
            return NONE;
        }
        int sum = 0;
        for (int c = 0; c < now.cases; c++) {
            if (cases.subject[c] == s) {
                sum += what == 0 ? 1 : now.openWeight(c, cases);
            }
        }
        return sum;
    }

    public int numbers(int what) {
        switch (what) {
            case 0:
                return now.spread();
            case 1:
                return cases.alike();
            default:
                return NONE;
        }
    }

    public int fair(int many) {
        if (many < 1 || many > Sharing.SHARERS) {
            return NONE;
        }
        sharing.clear();
        for (int c = 0; c < now.cases; c++) {
            if (now.place[c] != DONE && !sharing.add(cases.weight[c])) {
                return TOO_MANY;
            }
        }
        return sharing.leastGreatest(many);
    }

    public int seats(int n, int many, boolean highest, int what) {
        if (many < 1 || many > 60 || what < 0 || what >= n || !tape.take(n, 2, Parties.MOST)) {
            return NONE;
        }
        int votes = parties.load(tape, n);
        if (votes == 0) {
            return NOT_SO;
        }
        if (highest) {
            parties.shareByHighest(many);
        } else {
            parties.shareByRests(many, votes);
        }
        return parties.share[what];
    }

    public int power(int n, int quota, int what) {
        boolean known = what >= 0 && what < n || what == 100;
        if (quota < 1 || quota > 2040 || !known || !tape.take(n, 2, Parties.MOST)) {
            return NONE;
        }
        parties.load(tape, n);
        parties.countOrders(quota);
        return what == 100 ? Reckoner.firstOfMost(parties.share, n) : parties.share[what];
    }

    public int quills(int n, int what) {
        if (what < 0 || what > 2 || !tape.take(n, 2, 12)) {
            return NONE;
        }
        for (int i = 0; i < n; i++) {
            if (tape.byteAt(i) > 9) {
                return BAD_BYTE;
            }
        }
        int rest = Reckoner.quillRest(tape, n);
        if (what == 0) {
            return rest == 0 ? 1 : 0;
        }
        return what == 1 ? Math.floorMod(tape.byteAt(n - 1) - rest, 11) : Reckoner.quillWays(tape, n, rest);
    }

    public int weekday(int day, int month, int year) {
        if (!Reckoner.isYear(year) || month < 1 || month > 12) {
            return NONE;
        }
        if (day < 1 || day > Reckoner.daysOfMonth(month, year)) {
            return NOT_SO;
        }
        int manieth = day;
        for (int m = 1; m < month; m++) {
            manieth += Reckoner.daysOfMonth(m, year);
        }
        return Reckoner.weekdayOf(year, manieth);
    }

    public int work(int year, int from, int to) {
        if (!Reckoner.isYear(year) || from < 1 || from > to || to > Reckoner.daysOfYear(year)) {
            return NONE;
        }
        int sum = 0;
        for (int manieth = from; manieth < to; manieth++) {
            if (Reckoner.weekdayOf(year, manieth) < Reckoner.SATURDAY) {
                sum++;
            }
        }
        return sum;
    }

    public int cry(int across, int along, int fast) {
        if (across < 0 || across > 99 || along < 0 || along > 99 || fast < 1 || fast > 99) {
            return NONE;
        }
        return Reckoner.secondsOf(across, along, fast);
    }

    public int pickedUp(int n, int from) {
        if (n < 1 || n > Path.FEATHERS || from < 0 || from > 255 || !tape.take(2 * n, 2, 20)) {
            return NONE;
        }
        path.load(tape, n, from);
        return path.mostHad();
    }

    public int tails(int n, int many) {
        if (many < 1 || many > n || !tape.take(n, 2, Tails.MOST)) {
            return NONE;
        }
        if (!shivers.load(tape, n)) {
            return BAD_BYTE;
        }
        return shivers.firstBeat(many);
    }

    public boolean seed(int x) {
        if (x < 0 || x > 65535) {
            return false;
        }
        now.x = x;
        return true;
    }

    public int keep() {
        kept.copy(now);
        anyKept = true;
        return now.day;
    }

    public boolean undo() {
        if (!anyKept) {
            return false;
        }
        now.goBackTo(kept);
        return true;
    }

    public int check(int n) {
        if (!tape.take(n, 0, CASES)) {
            return NOT_SO;
        }
        for (int c = 0; c < n; c++) {
            int due = c < now.cases ? now.openWeight(c, cases) : 255;
            if (tape.byteAt(c) != due) {
                return c;
            }
        }
        return NONE;
    }

    public int count(int what) {
        switch (what) {
            case 0:
                return now.day;
            case 1:
                return now.cases;
            case 2:
                return now.bitsAt(WAITING);
            case 3:
                return now.bitsAt(DONE);
            case 4:
                return now.criesOfAll();
            case 5:
                return rules.size;
            case 6:
                return tape.size;
            case 7:
                return now.x;
            default:
                return NONE;
        }
    }

    private boolean isCase(int c) {
        return c >= 0 && c < now.cases;
    }

    private static boolean isPeacock(int p) {
        return p >= 0 && p < PEACOCKS;
    }

    private static boolean areDays(int n) {
        return n >= 1 && n <= MOST_DAYS;
    }

    private void goOn(Terrace terrace, int n) {
        for (int i = 0; i < n && i < MOST_DAYS; i++) {
            terrace.dayGoesBy(rules, cases);
        }
    }

    /** The bytes that are fed, and the reading of a text that was taken from them. */
    private static final class Tape {
        private static final int ROOM = 260;
        private static final int END = -1;

        private final int[] bytes = new int[ROOM];
        private int size = 0;
        private int at = 0;
        private int end = 0;
        private int fault = 0;

        boolean hasRoom(int more) {
            return size + more <= ROOM;
        }

        void add(int four) {
            for (int shift = 24; shift >= 0; shift -= 8) {
                if (size < ROOM) {
                    bytes[size] = (four >>> shift) & 255;
                    size++;
                }
            }
        }

        /** Empties the tape; what was taken can be read till the tape is fed again. */
        boolean take(int n, int least, int most) {
            if (n < least || n > most || n > size) {
                return false;
            }
            size = 0;
            at = 0;
            end = n;
            fault = 0;
            return true;
        }

        int byteAt(int i) {
            return i >= 0 && i < end && i < ROOM ? bytes[i] : 0;
        }

        boolean atEnd() {
            return at >= end;
        }

        int peek() {
            return at >= 0 && at < end && at < ROOM ? bytes[at] : END;
        }

        void step() {
            at++;
        }

        boolean pass(char sign) {
            if (peek() != sign) {
                return fail(FAULT_SIGN);
            }
            step();
            return true;
        }

        /** Which of these signs is the next one; -1: none. */
        int placeIn(String signs) {
            int next = peek();
            for (int i = 0; i < signs.length(); i++) {
                if (signs.charAt(i) == next) {
                    return i;
                }
            }
            return -1;
        }

        boolean isDigit() {
            int sign = peek();
            return sign >= '0' && sign <= '9';
        }

        /** A number of one digit to so many; -1 with a fault told. */
        int readNumber(int most) {
            int value = 0;
            for (int digits = 0; digits < most; digits++) {
                int sign = peek();
                if (sign < '0' || sign > '9') {
                    if (digits > 0) {
                        return value;
                    }
                    fail(FAULT_SIGN);
                    return -1;
                }
                value = value * 10 + sign - '0';
                step();
            }
            if (peek() < '0' || peek() > '9') {
                return value;
            }
            fail(FAULT_DIGIT);
            return -1;
        }

        /** Tells a fault here; always false, so that a reader can end with it. */
        boolean fail(int kind) {
            fault = -1000 * kind - at;
            return false;
        }

        boolean failAt(int kind, int where) {
            fault = -1000 * kind - where;
            return false;
        }
    }

    /** What the complaints were told to be. */
    private static final class Docket {
        private final int[] subject = new int[CASES];
        private final int[] weight = new int[CASES];
        private final int[] urgent = new int[CASES];
        private final int[] place = new int[CASES];
        private final int[] eyes = new int[PEACOCKS];
        private int size = 0;

        boolean readFrom(Tape text) {
            size = 0;
            Arrays.fill(eyes, EYES);
            for (int line = 0; line <= CASES; line++) {
                if (!readLine(text)) {
                    return false;
                }
                if (text.atEnd()) {
                    return true;
                }
                if (!text.pass(';')) {
                    return false;
                }
            }
            return false;
        }

        private boolean readLine(Tape text) {
            int letter = text.peek();
            if (letter < 'a' || letter > 'p') {
                return text.fail(FAULT_SIGN);
            }
            if (size >= CASES) {
                return text.fail(FAULT_MANY);
            }
            text.step();
            int number = text.readNumber(2);
            if (number < 0) {
                return false;
            }
            subject[size] = letter - 'a';
            weight[size] = number;
            urgent[size] = 0;
            place[size] = WAITING;
            if (text.peek() == '!') {
                text.step();
                urgent[size] = 1;
            }
            if (text.peek() == '>' && !readTaker(text)) {
                return false;
            }
            size++;
            return true;
        }

        private boolean readTaker(Tape text) {
            text.step();
            int p = text.peek() - '0';
            if (!isPeacock(p)) {
                return text.fail(FAULT_SIGN);
            }
            if (eyes[p] <= 0) {
                return text.fail(FAULT_TAKEN);
            }
            text.step();
            eyes[p]--;
            place[size] = p;
            return true;
        }

        int alike() {
            int twos = 0;
            for (int c = 0; c < size; c++) {
                for (int other = 0; other < c; other++) {
                    if (subject[c] == subject[other]) {
                        twos++;
                    }
                }
            }
            return twos;
        }
    }

    /** Ballots as they were told last, and who wins by them. */
    private static final class Cabinet {
        private static final int MINISTERS = 6;
        private static final int LINES = 12;

        private final int[] times = new int[LINES];
        // The place of each minister on a line (0 the best); -1: not told yet.
        private final int[] ranks = new int[LINES * MINISTERS];
        private int lines = 0;
        private int ministers = 0;

        boolean readFrom(Tape text, int many) {
            ministers = many;
            lines = 0;
            Arrays.fill(ranks, -1);
            for (int line = 0; line <= LINES; line++) {
                if (!readLine(text)) {
                    return false;
                }
                if (text.atEnd()) {
                    return true;
                }
                if (!text.pass(';')) {
                    return false;
                }
            }
            return false;
        }

        private boolean readLine(Tape text) {
            if (!text.isDigit() && !isMinister(text.peek() - 'a')) {
                return text.fail(FAULT_SIGN);
            }
            if (lines >= LINES) {
                return text.fail(FAULT_MANY);
            }
            int like = 1;
            if (text.isDigit()) {
                int first = text.at;
                like = text.readNumber(2);
                if (like < 0) {
                    return false;
                }
                if (like == 0) {
                    return text.failAt(FAULT_ZERO, first);
                }
            }
            times[lines] = like;
            for (int rank = 0; rank < ministers; rank++) {
                if (!readMinister(text, rank)) {
                    return false;
                }
            }
            lines++;
            return true;
        }

        private boolean readMinister(Tape text, int rank) {
            int m = text.peek() - 'a';
            if (!isMinister(m)) {
                return text.fail(FAULT_SIGN);
            }
            if (rankOf(lines, m) >= 0) {
                return text.fail(FAULT_TAKEN);
            }
            ranks[lines * MINISTERS + m] = rank;
            text.step();
            return true;
        }

        private boolean isMinister(int m) {
            return m >= 0 && m < ministers && m < MINISTERS;
        }

        private int rankOf(int line, int m) {
            return ranks[line * MINISTERS + m];
        }

        int answer(int what) {
            switch (what) {
                case 100:
                    return allBallots();
                case 101:
                    return byFirstPlaces();
                case 102:
                    return byPoints();
                case 103:
                    return byTwos();
                case 104:
                    return byRounds();
                default:
                    return isMinister(what) ? pointsOf(what) : NONE;
            }
        }

        private int allBallots() {
            int sum = 0;
            for (int line = 0; line < lines; line++) {
                sum += times[line];
            }
            return sum;
        }

        private int pointsOf(int m) {
            int sum = 0;
            for (int line = 0; line < lines; line++) {
                sum += times[line] * (ministers - 1 - rankOf(line, m));
            }
            return sum;
        }

        private int byPoints() {
            int best = 0;
            for (int m = 1; m < ministers; m++) {
                if (pointsOf(m) > pointsOf(best)) {
                    best = m;
                }
            }
            return best;
        }

        private int byFirstPlaces() {
            int all = (1 << ministers) - 1;
            int best = 0;
            for (int m = 1; m < ministers; m++) {
                if (firstsOf(m, all) > firstsOf(best, all)) {
                    best = m;
                }
            }
            return best;
        }

        /** On how many ballots one is ahead of all others of those left (bits). */
        private int firstsOf(int m, int left) {
            int sum = 0;
            for (int line = 0; line < lines; line++) {
                boolean first = true;
                for (int other = 0; other < ministers; other++) {
                    boolean among = (left >> other & 1) == 1;
                    first = first && !(among && rankOf(line, other) < rankOf(line, m));
                }
                sum += first ? times[line] : 0;
            }
            return sum;
        }

        private int byTwos() {
            int all = allBallots();
            for (int m = 0; m < ministers; m++) {
                boolean wins = true;
                for (int other = 0; other < ministers; other++) {
                    wins = wins && (other == m || 2 * firstsOf(m, 1 << other) > all);
                }
                if (wins) {
                    return m;
                }
            }
            return NOT_SO;
        }

        private int byRounds() {
            int left = (1 << ministers) - 1;
            for (int round = 1; round < ministers; round++) {
                left &= ~(1 << fewestOf(left));
            }
            return Integer.numberOfTrailingZeros(left);
        }

        private int fewestOf(int left) {
            int out = 0;
            int fewest = allBallots();
            for (int m = 0; m < ministers; m++) {
                if ((left >> m & 1) == 1 && firstsOf(m, left) <= fewest) {
                    out = m;
                    fewest = firstsOf(m, left);
                }
            }
            return out;
        }
    }

    /** The rules as steps of a small machine with a stack, and what was asked of it last. */
    private static final class Law {
        private static final int RULES = 16;
        // A text of 240 bytes makes no more steps than it has bytes.
        private static final int STEPS = 256;
        // Six open brackets hold two values each, a comparison one more.
        private static final int DEPTH = 32;

        private static final int TAKES = 0;
        private static final int CRIES = 1;
        private static final int HELPS = 2;
        private static final int MOULTS = 3;

        private static final int STOP = 0;
        private static final int NUMBER = 1;
        private static final int LETTER = 2;
        private static final int NOT = 3;
        private static final int SKIP_IF_NOT = 4;
        private static final int SKIP_IF = 5;
        private static final int ADD = 6;
        private static final int LESS = 7;
        private static final int TIMES = 8;
        private static final int THROUGH = 9;
        private static final int REST = 10;
        private static final int BELOW = 11;
        private static final int ABOVE = 12;
        private static final int LIKE = 13;

        private final int[] kind = new int[RULES];
        private final int[] valueAt = new int[RULES];
        private final int[] testAt = new int[RULES];
        private int size = 0;

        private final int[] steps = new int[STEPS];
        private final int[] with = new int[STEPS];
        private int length = 0;

        // What the letters of a rule are, as in LawReader.LETTERS.
        private final int[] facts = new int[10];
        private final int[] stack = new int[DEPTH];
        private boolean refused = false;

        void clear() {
            size = 0;
            length = 0;
        }

        void addRule(int ofKind, int value, int test) {
            if (size < RULES) {
                kind[size] = ofKind;
                valueAt[size] = value;
                testAt[size] = test;
                size++;
            }
        }

        int addStep(int step, int argument) {
            if (length < STEPS) {
                steps[length] = step;
                with[length] = argument;
                length++;
            }
            return length - 1;
        }

        void landHere(int skip) {
            if (skip >= 0 && skip < STEPS) {
                with[skip] = length;
            }
        }

        int worth(int ofKind, int highest, int ifNone) {
            for (int r = 0; r < size; r++) {
                if (kind[r] == ofKind && run(testAt[r]) != 0) {
                    return Math.max(0, Math.min(highest, run(valueAt[r])));
                }
            }
            return ifNone;
        }

        boolean moults() {
            for (int r = 0; r < size; r++) {
                if (kind[r] == MOULTS && run(testAt[r]) != 0) {
                    return true;
                }
            }
            return false;
        }

        /** What the steps from one on come to; 0 if something is divided by 0. */
        private int run(int start) {
            refused = false;
            int height = 0;
            int at = start;
            for (int i = 0; i < STEPS; i++) {
                if (at < 0 || at >= length || steps[at] == STOP) {
                    break;
                }
                int step = steps[at];
                int argument = with[at];
                at++;
                if (step <= LETTER) {
                    if (height >= DEPTH) {
                        return 0;
                    }
                    stack[height] = step == NUMBER ? argument : factOf(argument);
                    height++;
                } else if (step <= SKIP_IF) {
                    if (height < 1) {
                        return 0;
                    }
                    boolean held = stack[height - 1] != 0;
                    if (step == NOT) {
                        stack[height - 1] = held ? 0 : 1;
                    } else if (held == (step == SKIP_IF)) {
                        at = argument;
                    } else {
                        height--;
                    }
                } else {
                    if (height < 2) {
                        return 0;
                    }
                    height--;
                    stack[height - 1] = join(step, stack[height - 1], stack[height]);
                }
                if (refused) {
                    return 0;
                }
            }
            return height > 0 ? stack[height - 1] : 0;
        }

        private int factOf(int letter) {
            return letter >= 0 && letter < facts.length ? facts[letter] : 0;
        }

        private int join(int step, int left, int right) {
            switch (step) {
                case ADD:
                    return left + right;
                case LESS:
                    return left - right;
                case TIMES:
                    return left * right;
                case BELOW:
                    return left < right ? 1 : 0;
                case ABOVE:
                    return left > right ? 1 : 0;
                case LIKE:
                    return left == right ? 1 : 0;
                default:
                    break;
            }
            if (right == 0) {
                refused = true;
                return 0;
            }
            return step == THROUGH ? left / right : left % right;
        }
    }

    /** Reads a law from a text into its steps; how many signs are open is carried along. */
    private static final class LawReader {
        // The order of the kinds and of the facts of a Law.
        private static final String KINDS = "ekhx";
        private static final String LETTERS = "pcsvudqrtw";
        private static final int OPEN = 6;

        static boolean readInto(Law law, Tape text) {
            law.clear();
            for (int rule = 0; rule <= Law.RULES; rule++) {
                int kind = text.placeIn(KINDS);
                if (kind < 0) {
                    return text.fail(FAULT_SIGN);
                }
                if (rule >= Law.RULES) {
                    return text.fail(FAULT_MANY);
                }
                text.step();
                int value = law.length;
                if (kind != Law.MOULTS && !readSum(law, text, 0)) {
                    return false;
                }
                law.addStep(Law.STOP, 0);
                int test = law.length;
                if (!text.pass('(') || !readChoice(law, text, 1) || !text.pass(')')) {
                    return false;
                }
                law.addStep(Law.STOP, 0);
                law.addRule(kind, value, test);
                if (text.atEnd()) {
                    return true;
                }
                if (!text.pass(';')) {
                    return false;
                }
            }
            return false;
        }

        /** C: a skip lands behind the test, or the part, that it leaves out, and may be followed by the next skip. */
        private static boolean readChoice(Law law, Tape text, int open) {
            int andSkip = -1;
            int orSkip = -1;
            for (int i = 0; i < Law.STEPS; i++) {
                if (!readTest(law, text, open)) {
                    return false;
                }
                law.landHere(andSkip);
                andSkip = -1;
                if (text.peek() == '&') {
                    andSkip = law.addStep(Law.SKIP_IF_NOT, 0);
                } else {
                    law.landHere(orSkip);
                    if (text.peek() != '|') {
                        return true;
                    }
                    orSkip = law.addStep(Law.SKIP_IF, 0);
                }
                text.step();
            }
            return false;
        }

        private static boolean readTest(Law law, Tape text, int open) {
            int next = text.peek();
            if (next == '(' || next == '!') {
                if (open >= OPEN) {
                    return text.fail(FAULT_DEEP);
                }
                text.step();
                if (next == '(') {
                    return readChoice(law, text, open + 1) && text.pass(')');
                }
                boolean good = readTest(law, text, open + 1);
                law.addStep(Law.NOT, 0);
                return good;
            }
            if (!readSum(law, text, open)) {
                return false;
            }
            int sign = text.placeIn("<>=");
            if (sign < 0) {
                return text.fail(FAULT_SIGN);
            }
            text.step();
            boolean good = readSum(law, text, open);
            law.addStep(Law.BELOW + sign, 0);
            return good;
        }

        /** E: a sign waits till the factor, or the term, behind it has been read. */
        private static boolean readSum(Law law, Tape text, int open) {
            int times = -1;
            int plus = -1;
            for (int i = 0; i < Law.STEPS; i++) {
                if (!readFactor(law, text, open)) {
                    return false;
                }
                if (times >= 0) {
                    law.addStep(Law.TIMES + times, 0);
                }
                times = text.placeIn("*/%");
                if (times < 0) {
                    if (plus >= 0) {
                        law.addStep(Law.ADD + plus, 0);
                    }
                    plus = text.placeIn("+-");
                    if (plus < 0) {
                        return true;
                    }
                }
                text.step();
            }
            return false;
        }

        private static boolean readFactor(Law law, Tape text, int open) {
            if (text.peek() == '[') {
                if (open >= OPEN) {
                    return text.fail(FAULT_DEEP);
                }
                text.step();
                return readSum(law, text, open + 1) && text.pass(']');
            }
            int letter = text.placeIn(LETTERS);
            if (letter >= 0) {
                text.step();
                law.addStep(Law.LETTER, letter);
                return true;
            }
            int number = text.readNumber(5);
            law.addStep(Law.NUMBER, number);
            return number >= 0;
        }
    }

    /** Where complaints are and how long, who cried how often, the day, the draws. */
    private static final class Terrace {
        private final int[] place = new int[CASES];
        private final int[] age = new int[CASES];
        private final int[] cries = new int[PEACOCKS];
        // How many are at each place.
        private final int[] load = new int[PLACES];
        private int cases = 0;
        private int day = 0;
        private int x = 0;

        void begin(Docket docket) {
            cases = docket.size;
            System.arraycopy(docket.place, 0, place, 0, CASES);
            Arrays.fill(age, 0);
            Arrays.fill(cries, 0);
            countLoads();
        }

        void copy(Terrace other) {
            cases = other.cases;
            goBackTo(other);
        }

        void goBackTo(Terrace other) {
            int both = Math.min(cases, other.cases);
            System.arraycopy(other.place, 0, place, 0, both);
            System.arraycopy(other.age, 0, age, 0, both);
            System.arraycopy(other.cries, 0, cries, 0, PEACOCKS);
            day = other.day;
            x = other.x;
            countLoads();
        }

        private void countLoads() {
            Arrays.fill(load, 0);
            for (int c = 0; c < cases; c++) {
                load[place[c]]++;
            }
        }

        boolean hasEye(int p) {
            return load[p] < EYES;
        }

        void give(int c, int to) {
            load[place[c]]--;
            load[to]++;
            place[c] = to;
        }

        int bitsAt(int where) {
            int bits = 0;
            for (int c = 0; c < cases; c++) {
                if (place[c] == where) {
                    bits |= 1 << c;
                }
            }
            return bits;
        }

        int weightsAt(int where, Docket docket) {
            int sum = 0;
            for (int c = 0; c < cases; c++) {
                if (place[c] == where) {
                    sum += docket.weight[c];
                }
            }
            return sum;
        }

        int openWeight(int c, Docket docket) {
            return place[c] == DONE ? 0 : docket.weight[c];
        }

        int criesOfAll() {
            int sum = 0;
            for (int p = 0; p < PEACOCKS; p++) {
                sum += cries[p];
            }
            return sum;
        }

        int spread() {
            int most = load[0];
            int fewest = load[0];
            for (int p = 1; p < PEACOCKS; p++) {
                most = Math.max(most, load[p]);
                fewest = Math.min(fewest, load[p]);
            }
            return most - fewest;
        }

        void dayGoesBy(Law law, Docket docket) {
            if (day >= HIGHEST) {
                return;
            }
            for (int c = 0; c < cases; c++) {
                if (place[c] == WAITING) {
                    give(c, takerOf(c, law, docket));
                }
            }
            for (int p = 0; p < HEN; p++) {
                turnOf(p, law, docket);
            }
            for (int c = 0; c < cases; c++) {
                if (place[c] == HEN && age[c] >= 7) {
                    give(c, DONE);
                }
                if (place[c] != DONE) {
                    age[c] = Math.min(HIGHEST, age[c] + 1);
                }
            }
            day++;
        }

        private int takerOf(int c, Law law, Docket docket) {
            int best = WAITING;
            int most = 0;
            for (int p = 0; p < PEACOCKS; p++) {
                if (hasEye(p)) {
                    tellPeacock(p, 0, law.facts);
                    tellCase(c, docket, law.facts);
                    int worth = law.worth(Law.TAKES, HIGHEST, 0);
                    if (worth > most) {
                        best = p;
                        most = worth;
                    }
                }
            }
            return best;
        }

        private void turnOf(int p, Law law, Docket docket) {
            tellPeacock(p, draw(), law.facts);
            tellNoCase(law.facts);
            if (law.moults()) {
                giveAllBack(p);
                return;
            }
            int c = firstCried(p, law, docket);
            if (c < 0) {
                return;
            }
            tellCase(c, docket, law.facts);
            int helps = law.worth(Law.HELPS, 10, 10);
            cries[p] = Math.min(HIGHEST, cries[p] + 1);
            if (draw() < helps) {
                give(c, DONE);
            }
        }

        private void giveAllBack(int p) {
            for (int c = 0; c < cases; c++) {
                if (place[c] == p) {
                    give(c, WAITING);
                }
            }
        }

        private int firstCried(int p, Law law, Docket docket) {
            int best = -1;
            int most = 0;
            for (int c = 0; c < cases; c++) {
                if (place[c] == p) {
                    tellCase(c, docket, law.facts);
                    int worth = law.worth(Law.CRIES, HIGHEST, 1);
                    if (worth > most) {
                        best = c;
                        most = worth;
                    }
                }
            }
            return best;
        }

        private int draw() {
            x = (25173 * x + 13849) & 65535;
            return x % 10;
        }

        private void tellPeacock(int p, int drawn, int[] facts) {
            facts[0] = p;
            facts[6] = load[p];
            facts[7] = cries[p];
            facts[8] = day % 100;
            facts[9] = drawn;
        }

        private void tellCase(int c, Docket docket, int[] facts) {
            facts[1] = c;
            facts[2] = docket.subject[c];
            facts[3] = docket.weight[c];
            facts[4] = docket.urgent[c];
            facts[5] = age[c];
        }

        private void tellNoCase(int[] facts) {
            facts[1] = CASES;
            facts[2] = SUBJECTS;
            facts[3] = 0;
            facts[4] = 0;
            facts[5] = 0;
        }
    }

    /** Weights shared anew among a few, so that the greatest sum is least. */
    private static final class Sharing {
        private static final int SHARERS = 4;
        private static final int MOST = 10;

        private final int[] weights = new int[MOST];
        private final int[] sums = new int[SHARERS];
        private int size = 0;
        private int sharers = 0;
        private int best = 0;

        void clear() {
            size = 0;
        }

        boolean add(int weight) {
            if (size >= MOST) {
                return false;
            }
            weights[size] = weight;
            size++;
            return true;
        }

        int leastGreatest(int many) {
            int all = 0;
            for (int i = 0; i < size; i++) {
                all += weights[i];
            }
            sharers = many;
            best = all;
            Arrays.fill(sums, 0);
            shareOut(0, 0);
            return best;
        }

        private void shareOut(int from, int greatest) {
            if (from >= size) {
                best = greatest;
                return;
            }
            for (int i = 0; i < sharers && i < SHARERS; i++) {
                int before = sums[i];
                int sum = before + weights[from];
                if (sum < best) {
                    sums[i] = sum;
                    shareOut(from + 1, Math.max(greatest, sum));
                    sums[i] = before;
                }
                // Those who have nothing yet are alike: one of them is enough.
                if (before == 0) {
                    return;
                }
            }
        }
    }

    /** Parties with votes or weights, and what each has by them: seats or orders. */
    private static final class Parties {
        private static final int MOST = 8;
        // How many orders so many have.
        private static final int[] ORDERS = {1, 1, 2, 6, 24, 120, 720, 5040};

        private final int[] votes = new int[MOST];
        private final int[] rests = new int[MOST];
        private final int[] share = new int[MOST];
        private int size = 0;

        /** The sum of all votes. */
        int load(Tape tape, int n) {
            size = Math.max(0, Math.min(n, MOST));
            int sum = 0;
            for (int i = 0; i < size; i++) {
                votes[i] = tape.byteAt(i);
                share[i] = 0;
                sum += votes[i];
            }
            return sum;
        }

        void shareByRests(int many, int all) {
            if (all <= 0) {
                return;
            }
            int left = many;
            for (int i = 0; i < size; i++) {
                share[i] = votes[i] * many / all;
                rests[i] = votes[i] * many % all;
                left -= share[i];
            }
            for (int i = 0; i < left; i++) {
                int next = Reckoner.firstOfMost(rests, size);
                share[next]++;
                rests[next] = -1;
            }
        }

        void shareByHighest(int many) {
            for (int seat = 0; seat < many; seat++) {
                int best = 0;
                for (int i = 1; i < size; i++) {
                    if (votes[i] * (share[best] + 1) > votes[best] * (share[i] + 1)) {
                        best = i;
                    }
                }
                share[best]++;
            }
        }

        /** One reaches the quota behind those of a set ahead, in whatever order they and the others come. */
        void countOrders(int quota) {
            for (int ahead = 0; ahead < 1 << size; ahead++) {
                int sum = sumOf(ahead);
                int many = Integer.bitCount(ahead);
                for (int i = 0; i < size; i++) {
                    boolean comes = (ahead >> i & 1) == 0;
                    if (comes && sum < quota && sum + votes[i] >= quota) {
                        share[i] += ORDERS[many] * ORDERS[size - 1 - many];
                    }
                }
            }
        }

        private int sumOf(int set) {
            int sum = 0;
            for (int i = 0; i < size; i++) {
                sum += (set >> i & 1) * votes[i];
            }
            return sum;
        }
    }

    /** Quills, the calendar, the cry, the greatest of a row: reckoned without a state. */
    private static final class Reckoner {
        private static final int SATURDAY = 5;
        private static final int FIRST_YEAR = 1600;
        private static final int LAST_YEAR = 2999;

        static int firstOfMost(int[] row, int n) {
            int best = 0;
            for (int i = 1; i < n && i < row.length; i++) {
                if (row[i] > row[best]) {
                    best = i;
                }
            }
            return best;
        }

        static int quillRest(Tape tape, int n) {
            int sum = 0;
            for (int i = 0; i < n; i++) {
                sum += tape.byteAt(i) * (n - i);
            }
            return sum % 11;
        }

        static int quillWays(Tape tape, int n, int rest) {
            int ways = 0;
            for (int i = 0; i < n; i++) {
                int is = tape.byteAt(i);
                for (int digit = 0; digit <= 9; digit++) {
                    if (digit != is && (rest + (digit - is) * (n - i)) % 11 == 0) {
                        ways++;
                    }
                }
            }
            return ways;
        }

        static boolean isYear(int year) {
            return year >= FIRST_YEAR && year <= LAST_YEAR;
        }

        private static boolean isLeap(int year) {
            return year % 4 == 0 && (year % 100 != 0 || year % 400 == 0);
        }

        static int daysOfYear(int year) {
            return isLeap(year) ? 366 : 365;
        }

        static int daysOfMonth(int month, int year) {
            if (month == 2) {
                return isLeap(year) ? 29 : 28;
            }
            return month == 4 || month == 6 || month == 9 || month == 11 ? 30 : 31;
        }

        /** The first day of 1600 was a Saturday, and 1600 had a leap day. */
        static int weekdayOf(int year, int manieth) {
            int years = year - FIRST_YEAR;
            int leapDays = (years + 3) / 4 - (years + 99) / 100 + (years + 399) / 400;
            return (SATURDAY + 365 * years + leapDays + manieth - 1) % 7;
        }

        /** Squares are compared, so that nothing is rounded but the seconds. */
        static int secondsOf(int across, int along, int fast) {
            int way = 4 * (across * across + along * along);
            int seconds = 0;
            while (seconds < 1000 && seconds * seconds * fast * fast < way) {
                seconds++;
            }
            return seconds;
        }
    }

    /** Feathers along a path, by stretches that one has been on. */
    private static final class Path {
        private static final int FEATHERS = 10;
        // The place where one starts is among them, as one that is never had.
        private static final int POINTS = FEATHERS + 1;
        private static final int FAR = 1000000;

        private final int[] where = new int[POINTS];
        private final int[] till = new int[POINTS];
        // The earliest minute: of a stretch that begins at a point, at its left or right end, with so many had.
        private int[] soonest = new int[POINTS * 2 * POINTS];
        private int[] longer = new int[POINTS * 2 * POINTS];
        private int size = 0;

        void load(Tape tape, int n, int from) {
            size = 0;
            insert(from, -1);
            for (int i = 0; i < n; i++) {
                insert(tape.byteAt(2 * i), tape.byteAt(2 * i + 1));
            }
        }

        private void insert(int place, int minute) {
            if (size >= POINTS) {
                return;
            }
            int at = size;
            while (at > 0 && where[at - 1] > place) {
                where[at] = where[at - 1];
                till[at] = till[at - 1];
                at--;
            }
            where[at] = place;
            till[at] = minute;
            size++;
        }

        int mostHad() {
            Arrays.fill(soonest, FAR);
            for (int i = 0; i < size; i++) {
                if (till[i] < 0) {
                    soonest[slot(i, 0, 0)] = 0;
                }
            }
            for (int points = 1; points < size; points++) {
                Arrays.fill(longer, FAR);
                growAll(points);
                int[] before = soonest;
                soonest = longer;
                longer = before;
            }
            int most = 0;
            for (int had = 0; had < size; had++) {
                if (soonest[slot(0, 0, had)] < FAR || soonest[slot(0, 1, had)] < FAR) {
                    most = had;
                }
            }
            return most;
        }

        private void growAll(int points) {
            for (int left = 0; left + points <= size; left++) {
                for (int had = 0; had < points; had++) {
                    grow(left, points, 0, had);
                    grow(left, points, 1, had);
                }
            }
        }

        private void grow(int left, int points, int side, int had) {
            int minute = soonest[slot(left, side, had)];
            if (minute >= FAR) {
                return;
            }
            int at = where[side == 0 ? left : left + points - 1];
            if (left > 0) {
                reach(left - 1, left - 1, 0, had, minute + at - where[left - 1]);
            }
            if (left + points < size) {
                reach(left + points, left, 1, had, minute + where[left + points] - at);
            }
        }

        private void reach(int point, int left, int side, int had, int minute) {
            int to = slot(left, side, minute <= till[point] ? had + 1 : had);
            longer[to] = Math.min(longer[to], minute);
        }

        private static int slot(int left, int side, int had) {
            return (left * 2 + side) * POINTS + had;
        }
    }

    /** Tails that shiver together: at the least beat that all of some few divide. */
    private static final class Tails {
        private static final int MOST = 12;
        private static final int LAST_BEAT = 100000;

        private final int[] every = new int[MOST];
        private int size = 0;
        private int best = 0;

        /** False if one of them is 0. */
        boolean load(Tape tape, int n) {
            size = Math.max(0, Math.min(n, MOST));
            boolean good = true;
            for (int i = 0; i < size; i++) {
                every[i] = tape.byteAt(i);
                good = good && every[i] > 0;
            }
            return good;
        }

        int firstBeat(int many) {
            best = LAST_BEAT + 1;
            choose(0, many, 1);
            return best > LAST_BEAT ? NOT_SO : best;
        }

        private void choose(int from, int missing, int beat) {
            if (beat >= best || size - from < missing) {
                return;
            }
            if (missing == 0) {
                best = beat;
                return;
            }
            int common = commonOf(beat, every[from]);
            if (common > 0) {
                choose(from + 1, missing - 1, beat / common * every[from]);
            }
            choose(from + 1, missing, beat);
        }

        /** The greatest number that divides both; below 2^25 it takes no more than 40 steps. */
        private static int commonOf(int a, int b) {
            int high = a;
            int low = b;
            for (int i = 0; i < 64 && low != 0; i++) {
                int rest = high % low;
                high = low;
                low = rest;
            }
            return high;
        }
    }
}
