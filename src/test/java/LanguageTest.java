import java.io.IOException;
import java.lang.reflect.Constructor;
import java.lang.reflect.Field;
import java.lang.reflect.Method;
import java.lang.reflect.Modifier;
import java.nio.charset.StandardCharsets;
import java.nio.file.Files;
import java.nio.file.Path;
import java.util.Arrays;
import java.util.Set;
import java.util.TreeSet;
import java.util.regex.Matcher;
import java.util.regex.Pattern;

/** The rules of ../shared/LANGUAGE.md that can be seen from the source or from the class. */
public final class LanguageTest {
    private static final String[] FACE = {"boolean say(int,int)", "int feed(int,int,int,int,int)", "int law(int)", "int docket(int)",
        "int ballots(int,int,int)", "int days(int)", "int tried(int,int)", "int caseIs(int,int)", "int peacockIs(int,int)",
        "int byWhen(int,int)", "int allQuiet(int)", "int heard(int)", "int longest()", "int ofSubject(int,int)", "int numbers(int)",
        "int fair(int)", "int seats(int,int,boolean,int)", "int power(int,int,int)", "int quills(int,int)", "int weekday(int,int,int)",
        "int work(int,int,int)", "int cry(int,int,int)", "int pickedUp(int,int)", "int tails(int,int)", "boolean seed(int)", "int keep()",
        "boolean undo()", "int check(int)", "int count(int)"};
    private static final String[] BANNED = {"\\bthrow\\b", "\\btry\\b", "\\bcatch\\b", "\\bsynchronized\\b", "\\bassert\\b", "->", "::",
        "\\bstatic\\s*\\{", "\\bpackage\\b", "\\bThread\\b", "\\bSystem\\.(?!arraycopy)", "\\bRandom\\b", "Exact\\(", "\\bObject\\b",
        "\\bdouble\\b", "\\bfloat\\b", "\\bthrows\\b", "\\bprotected\\b", "\\b(Integer|Long|Math)\\.[A-Z]"};

    public static void main(String[] args) throws IOException {
        String source = Files.readString(Path.of("src/main/java/PeacockDesk.java"), StandardCharsets.ISO_8859_1);
        face();
        classes();
        words(source);
        lengths(source);
        Bench.end("LanguageTest");
    }

    private static void holds(String rule, boolean is) {
        Bench.due(rule, is, true);
    }

    private static void face() {
        Class<?> face = PeacockDesk.class;
        holds("1: public and final", Modifier.isPublic(face.getModifiers()) && Modifier.isFinal(face.getModifiers()));
        Set<String> seen = new TreeSet<>();
        for (Method m : face.getDeclaredMethods()) {
            if (Modifier.isPrivate(m.getModifiers())) continue;
            holds("1: public and of the object: " + m, Modifier.isPublic(m.getModifiers()) && !Modifier.isStatic(m.getModifiers()));
            StringBuilder text = new StringBuilder(m.getReturnType() + " " + m.getName() + "(");
            for (Class<?> p : m.getParameterTypes()) text.append(text.charAt(text.length() - 1) == '(' ? "" : ",").append(p);
            seen.add(text + ")");
        }
        holds("1: the face, as it is: " + seen, seen.equals(new TreeSet<>(Arrays.asList(FACE))));
        for (Field f : face.getDeclaredFields()) {
            holds("1: field " + f.getName(), Modifier.isPrivate(f.getModifiers()) || f.getName().equals("NONE"));
        }
        Constructor<?>[] made = face.getDeclaredConstructors();
        holds("1: one constructor", made.length == 1 && made[0].getParameterCount() == 0 && Modifier.isPublic(made[0].getModifiers()));
    }

    private static void classes() {
        Set<String> names = new TreeSet<>();
        for (String f : FACE) names.add(f.substring(f.indexOf(' ') + 1, f.indexOf('(')));
        Class<?>[] inside = PeacockDesk.class.getDeclaredClasses();
        holds("11: some twelve classes", 1 + inside.length <= 12);
        for (Class<?> c : inside) {
            int is = c.getModifiers();
            holds("1: " + c + " is static and not public", Modifier.isStatic(is) && !Modifier.isPublic(is) && !Modifier.isProtected(is));
            holds("2: nothing inside " + c, c.getDeclaredClasses().length == 0);
            for (Method m : c.getDeclaredMethods()) {
                holds("1: no second " + m.getName(), !names.contains(m.getName()));
                holds("11: parameters of " + m, m.getParameterCount() <= 7);
            }
            fields(c);
        }
        for (Method m : PeacockDesk.class.getDeclaredMethods()) {
            holds("1: no private " + m.getName(), Modifier.isPublic(m.getModifiers()) || !names.contains(m.getName()));
        }
        fields(PeacockDesk.class);
    }

    private static void fields(Class<?> c) {
        int own = 0;
        for (Field f : c.getDeclaredFields()) {
            if (!Modifier.isStatic(f.getModifiers())) own++;
            else holds("5: final " + f, Modifier.isFinal(f.getModifiers()));
        }
        holds("11: fields of " + c, own <= 20);
    }

    private static void words(String source) {
        String code = source.replaceAll("(?s)/\\*.*?\\*/", " ").replaceAll("//[^\n]*", " ");
        for (String banned : BANNED) {
            holds("6, 13: no " + banned, !Pattern.compile(banned).matcher(code).find());
        }
        Matcher imports = Pattern.compile("import ([^;]*);").matcher(code);
        while (imports.find()) {
            holds("4: import " + imports.group(1), imports.group(1).matches("java\\.util\\.(Arrays|ArrayList|List|Iterator)"));
        }
        Matcher arrays = Pattern.compile("Arrays\\.(\\w+)").matcher(code.replaceAll("import [^;]*;", ""));
        while (arrays.find()) {
            holds("4: Arrays." + arrays.group(1), arrays.group(1).matches("copyOf|copyOfRange|fill"));
        }
        for (int i = 0; i < source.length(); i++) {
            char c = source.charAt(i);
            if (c > 126) holds("4: sign " + (int) c, false);
        }
        holds("no tabs", source.indexOf('\t') < 0);
    }

    /** A method begins at a line that ends with ") {" and is no deeper than two classes. */
    private static void lengths(String source) {
        String[] lines = source.split("\n");
        Pattern head = Pattern.compile("^( {4}| {8})(?! |if|for|while|switch|else|return)[\\w<>\\[\\] ]+\\([^;]*\\) \\{$");
        int methods = 0;
        for (int i = 0; i < lines.length; i++) {
            Matcher m = head.matcher(lines[i]);
            if (!m.find()) continue;
            int j = i;
            while (j < lines.length && !lines[j].equals(m.group(1) + "}")) j++;
            methods++;
            holds("11: short: " + lines[i].trim(), j - i < 60);
        }
        holds("11: methods were found", methods > 80);
    }
}
