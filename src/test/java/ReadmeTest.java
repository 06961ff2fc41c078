import java.io.IOException;
import java.io.UncheckedIOException;
import java.lang.reflect.Method;
import java.nio.file.Files;
import java.nio.file.Path;
import java.util.ArrayList;
import java.util.Arrays;
import java.util.List;
import java.util.Map;
import java.util.Set;
import java.util.TreeMap;
import java.util.TreeSet;
import java.util.regex.Matcher;
import java.util.regex.Pattern;
import java.util.stream.Stream;

/** What README.md says holds of the class as it stands: its examples, its tables, its names. */
public final class ReadmeTest {
    private static final String[] README = read("README.md").split("\n");

    /** Arguments with which a call is not refused, by a desk of 24 complaints with 260 bytes on its tape. */
    private static final Map<String, Object[]> GOOD = new TreeMap<>();

    static {
        good("say", 5, 5);
        good("law", 9);
        good("docket", 9);
        good("ballots", 3, 9, 100);
        good("days", 9);
        good("tried", 9, 0);
        good("caseIs", 5, 1);
        good("peacockIs", 5, 1);
        good("byWhen", 5, 9);
        good("allQuiet", 9);
        good("heard", 1);
        good("ofSubject", 5, 1);
        good("numbers", 1);
        good("fair", 3);
        good("seats", 5, 9, true, 1);
        good("power", 5, 9, 1);
        good("quills", 5, 1);
        good("weekday", 9, 9, 2026);
        good("work", 2026, 9, 99);
        good("cry", 9, 9, 9);
        good("pickedUp", 5, 9);
        good("tails", 5, 1);
        good("seed", 9);
        good("check", 9);
        good("count", 1);
    }

    public static void main(String[] args) throws ReflectiveOperationException, IOException {
        helper();
        examples();
        List<String[]> calls = table("call");
        face(calls);
        for (String[] row : calls) {
            refusals(row);
        }
        letters();
        aDay();
        faults();
        names();
        Bench.end("ReadmeTest");
    }

    static int tell(PeacockDesk desk, String text) {
        int has = 0;
        for (int from = 0; from < text.length(); from += 20) {
            int[] five = new int[5];
            for (int i = 0; i < 20; i++) {
                int sign = from + i < text.length() ? text.charAt(from + i) : 0;
                five[i / 4] = five[i / 4] << 8 | sign;
            }
            has = desk.feed(five[0], five[1], five[2], five[3], five[4]);
        }
        return has;
    }

    private static void good(String call, Object... arguments) {
        GOOD.put(call, arguments);
    }

    private static String read(String file) {
        try {
            return Files.readString(Path.of(file));
        } catch (IOException e) {
            throw new UncheckedIOException(e);
        }
    }

    private static void holds(String what, boolean is) {
        Bench.due("README: " + what, is, true);
    }

    /** The blocks of Java. */
    private static List<List<String>> blocks() {
        List<List<String>> all = new ArrayList<>();
        List<String> open = null;
        for (String line : README) {
            if (line.equals("```java")) {
                open = new ArrayList<>();
                all.add(open);
            } else if (line.equals("```")) {
                open = null;
            } else if (open != null) {
                open.add(line);
            }
        }
        return all;
    }

    /** The rows of the table whose first heading is this one. */
    private static List<String[]> table(String heading) {
        List<String[]> rows = new ArrayList<>();
        boolean in = false;
        for (String line : README) {
            in = line.startsWith("| " + heading + " |") || in && line.startsWith("|");
            if (in) {
                String[] cells = line.substring(1, line.length() - 1).split("\\|", -1);
                for (int i = 0; i < cells.length; i++) cells[i] = cells[i].trim();
                rows.add(cells);
            }
        }
        holds("a table of " + heading, rows.size() > 2);
        return rows.subList(2, rows.size());
    }

    private static void helper() {
        String shown = String.join(" ", blocks().get(0)).replaceAll("\\s+", " ");
        String here = read("src/test/java/ReadmeTest.java").replaceAll("\\s+", " ");
        holds("the helper is the one that is run here", shown.startsWith("static int tell(") && here.contains(shown));
    }

    private static void examples() throws ReflectiveOperationException {
        Set<String> called = new TreeSet<>();
        List<List<String>> all = blocks();
        for (List<String> block : all.subList(1, all.size())) {
            PeacockDesk desk = new PeacockDesk();
            for (String line : block) {
                called.add(example(desk, line));
            }
        }
        for (Method m : PeacockDesk.class.getDeclaredMethods()) {
            if (java.lang.reflect.Modifier.isPublic(m.getModifiers())) {
                holds("an example of " + m.getName(), called.contains(m.getName()));
            }
        }
    }

    private static String example(PeacockDesk desk, String line) throws ReflectiveOperationException {
        Matcher told = Pattern.compile("tell\\(desk, \"([^\"]*)\"\\); +// (\\d+)").matcher(line);
        if (told.matches()) {
            Bench.due(line, tell(desk, told.group(1)), Integer.parseInt(told.group(2)));
            return "tell";
        }
        Matcher call = Pattern.compile("desk\\.(\\w+)\\((.*?)\\); +// ([^: ]+)(: .*)?").matcher(line);
        if (!call.matches()) {
            holds("can be read: " + line, false);
            return "";
        }
        String[] texts = call.group(2).isEmpty() ? new String[0] : call.group(2).split(", ");
        Object[] arguments = new Object[texts.length];
        for (int i = 0; i < texts.length; i++) {
            boolean truth = texts[i].equals("true") || texts[i].equals("false");
            arguments[i] = truth ? (Object) Boolean.valueOf(texts[i]) : Integer.decode(texts[i]);
        }
        String answer = String.valueOf(methodOf(call.group(1)).invoke(desk, arguments));
        holds(line + " answered " + answer, answer.equals(call.group(3)));
        return call.group(1);
    }

    private static Method methodOf(String name) {
        for (Method m : PeacockDesk.class.getDeclaredMethods()) {
            if (m.getName().equals(name)) return m;
        }
        throw new IllegalArgumentException(name);
    }

    /** The calls of the table are those of the document, in its order, with its names. */
    private static void face(List<String[]> calls) {
        Matcher document = Pattern.compile("public (?:int |boolean )?(\\w+)\\((.*)\\);").matcher(read("../shared/DOC.md"));
        List<String> due = new ArrayList<>();
        while (document.find()) {
            String made = document.group(1).equals("PeacockDesk") ? "new " : "";
            due.add("`" + made + document.group(1) + "(" + document.group(2).replaceAll("(int|boolean) ", "") + ")`");
        }
        List<String> is = new ArrayList<>();
        for (String[] row : calls) is.add(row[0]);
        holds("the calls " + is, is.equals(due));
    }

    /** One argument at a time is at its bounds, and one step beyond. */
    private static void refusals(String[] row) throws ReflectiveOperationException {
        Matcher head = Pattern.compile("`(\\w+)\\((.*)\\)`").matcher(row[0]);
        if (!head.matches() || !GOOD.containsKey(head.group(1))) {
            boolean never = row[0].startsWith("`new") || row[2].isEmpty() || row[0].equals("`undo()`");
            holds("a good call of " + row[0], never || row[0].startsWith("`feed("));
            return;
        }
        String call = head.group(1);
        List<String> names = Arrays.asList(head.group(2).split(", "));
        accepted(call, -1, 0, true);
        Matcher bounds = Pattern.compile("((?:[a-z]+, )*[a-z]+) not (\\d+) to (\\d+|n - 1|n)(?![\\w-])").matcher(row[2]);
        int found = 0;
        while (bounds.find()) {
            for (String name : bounds.group(1).split(", ")) {
                int at = names.indexOf(name);
                holds(call + " has " + name, at >= 0);
                int n = (Integer) GOOD.get(call)[0];
                String last = bounds.group(3);
                int high = last.equals("n") ? n : last.equals("n - 1") ? n - 1 : Integer.parseInt(last);
                bounds(call, at, Integer.parseInt(bounds.group(2)), high);
                found++;
            }
        }
        found += noSuch(call, row[2], names);
        holds("a bound of " + call, found > 0);
    }

    private static int noSuch(String call, String refused, List<String> names) throws ReflectiveOperationException {
        int found = 0;
        if (refused.contains("no such COMPLAINT") && names.contains("c")) {
            bounds(call, names.indexOf("c"), 0, 23);
            found++;
        }
        if (refused.contains("no such PEACOCK") && names.contains("p")) {
            bounds(call, names.indexOf("p"), 0, 8);
            found++;
        }
        if (refused.contains("another what")) {
            accepted(call, names.indexOf("what"), -1, false);
            accepted(call, names.indexOf("what"), 1000, false);
            found++;
        }
        if (refused.contains("the tape has not so many")) {
            PeacockDesk desk = new PeacockDesk();
            Bench.due(call + " with no tape", number(methodOf(call).invoke(desk, GOOD.get(call))), refusal(call));
            found++;
        }
        return found;
    }

    private static void bounds(String call, int at, int low, int high) throws ReflectiveOperationException {
        accepted(call, at, low - 1, false);
        accepted(call, at, low, true);
        accepted(call, at, high, true);
        accepted(call, at, high + 1, false);
    }

    private static void accepted(String call, int at, int value, boolean is) throws ReflectiveOperationException {
        PeacockDesk desk = new PeacockDesk();
        Bench.docket(desk, "a1" + ";a1".repeat(23));
        int[] bytes = new int[260];
        Arrays.fill(bytes, 1);
        Bench.feed(desk, bytes);
        Object[] arguments = GOOD.get(call).clone();
        if (at >= 0) arguments[at] = value;
        boolean answered = number(methodOf(call).invoke(desk, arguments)) != refusal(call);
        holds(call + Arrays.toString(arguments) + " is refused: " + !is, answered == is);
        holds(call + Arrays.toString(arguments) + " leaves the tape if it is refused", is || desk.count(6) == 260);
    }

    private static int refusal(String call) {
        return call.equals("check") ? -2 : call.equals("say") || call.equals("seed") ? 0 : PeacockDesk.NONE;
    }

    private static int number(Object answer) {
        return answer instanceof Boolean truth ? truth ? 1 : 0 : (Integer) answer;
    }

    /** Without a rule that holds: by one that never does, and by none of that letter. */
    private static void letters() {
        for (String[] row : table("letter")) {
            String letter = row[0].substring(1, 2);
            String never = letter.equals("x") ? "x(1=2)" : letter + "5(1=2)";
            for (String law : new String[] {never, "x(1=2)"}) {
                boolean taken = letter.equals("e");
                PeacockDesk desk = new PeacockDesk();
                Bench.docket(desk, taken ? "a1" : "a1>2");
                Bench.due("law " + law, Bench.law(desk, law), 1);
                int done = taken ? 0 : 1;
                Bench.due(law + " and a day", desk.days(1), done);
                Bench.due(law + " and where it is", desk.caseIs(0, 3), taken ? 0 : 2);
            }
        }
    }

    /** The part on a day: what is taken without a law, by whom with a draw below h, by the hen, on which day. */
    private static void aDay() {
        String page = String.join(" ", README).replaceAll("\\s+", " ");
        holds("the draw", page.contains("X = (25173 X + 13849) modulo 65536"));
        PeacockDesk desk = new PeacockDesk();
        Bench.docket(desk, "a1;b2>0;c3>8");
        Bench.due("done on a day without a law", desk.days(1), 1);
        Bench.due("waiting behind it", desk.count(2), 1);
        int x = 1;
        for (int draws = 0; draws < 9; draws++) x = (25173 * x + 13849) % 65536;
        Bench.due("nine draws: eight, and one of the peacock that cried", desk.count(7), x);
        Bench.due("done in six days more", desk.days(6), 0);
        Bench.due("done by the hen, of 7 days", desk.days(1), 1);
        Bench.due("days of it", desk.caseIs(2, 5), 7);
        Bench.law(desk, "e1/0(1=1)");
        desk.days(1);
        Bench.due("an E through 0 is 0", desk.caseIs(0, 3), 0);
        Bench.law(desk, "e1(!(1/0=1)|1=1);e1(p=4)");
        desk.days(1);
        Bench.due("a C with a division by 0 does not hold", desk.peacockIs(4, 1), 1);
    }

    private static void faults() {
        String[] dockets = {"a5;", "a123", "", "a1" + ";a1".repeat(24), "", "a1>0" + ";a1>0".repeat(12)};
        String[] ballots = {"ab;", "123ab", "0ab", "ab" + ";ab".repeat(12), "", "aa"};
        String[] laws = {"e1", "e123456", "", "x(1=1)" + ";x(1=1)".repeat(16), "x((((((([", ""};
        List<String[]> rows = table("FAULT");
        Bench.due("README: so many faults", rows.size(), 6);
        for (int i = 0; i < 6; i++) {
            String[] row = rows.get(i);
            String[] texts = {dockets[i], ballots[i], laws[i]};
            Bench.due("README: fault", Integer.parseInt(row[0]), i + 1);
            for (int k = 0; k < 3; k++) {
                holds("fault " + row[0] + " in column " + k, row[k + 1].isEmpty() == texts[k].isEmpty());
                if (!texts[k].isEmpty()) {
                    PeacockDesk desk = new PeacockDesk();
                    int answer = k == 0 ? Bench.docket(desk, texts[k])
                        : k == 1 ? Bench.ballots(desk, 2, texts[k], 100) : Bench.law(desk, texts[k]);
                    Bench.due("fault of " + texts[k], answer / -1000, i + 1);
                    Bench.due("tape behind " + texts[k], desk.count(6), 0);
                }
            }
        }
    }

    private static void names() throws IOException {
        Set<String> told = new TreeSet<>();
        for (String[] row : table("class")) {
            for (String name : row[0].split(", ")) told.add(name.replace("`", ""));
        }
        Set<String> inside = new TreeSet<>();
        for (Class<?> c : PeacockDesk.class.getDeclaredClasses()) inside.add(c.getSimpleName());
        holds("classes " + told, told.equals(inside));
        Set<String> tests = new TreeSet<>();
        for (String line : README) {
            Matcher test = Pattern.compile("- `(\\w+Test)`: .*").matcher(line);
            if (test.matches()) tests.add(test.group(1));
        }
        Set<String> files = new TreeSet<>();
        try (Stream<Path> all = Files.list(Path.of("src/test/java"))) {
            for (Path file : all.toList()) {
                String name = file.getFileName().toString();
                if (name.endsWith("Test.java")) files.add(name.replace(".java", ""));
            }
        }
        holds("tests " + tests, tests.equals(files));
        holds("how tests are run", Files.isExecutable(Path.of(".ci/run")));
    }
}
