import java.io.IOException;
import java.lang.reflect.Field;
import java.lang.reflect.Method;
import java.lang.reflect.Modifier;
import java.nio.file.Files;
import java.nio.file.Path;
import java.util.ArrayList;
import java.util.List;
import java.util.Set;
import java.util.TreeSet;
import java.util.regex.Matcher;
import java.util.regex.Pattern;

/** What of ../shared/LANGUAGE.md can be counted or looked up in the program's own text: the number is that of its rule. */
public final class LanguageTest {
    private static final int MOST_CLASSES = 12;
    private static final int MOST_FIELDS = 20;
    private static final int MOST_PARAMETERS = 7;
    private static final int MOST_LINES = 60;
    private static final Set<String> CALLED = Set.of("Arrays.fill", "System.arraycopy", "Integer.bitCount", "Math.abs",
        "Math.max", "Math.min");
    private static final String[] FORBIDDEN = {"->", "::", "\\btry\\b", "\\bcatch\\b", "\\bfinally\\b", "\\bsynchronized\\b",
        "\\bassert\\b", "\\bvar\\b", "\\binstanceof\\b", "\\bprotected\\b", "\\btoString\\b", "\\bhashCode\\b", "\\.equals\\b",
        "\\bMath\\.\\w*Exact\\b", "\\bstatic \\{", "\\bpackage\\b", "\\bnative\\b"};
    private static final Pattern METHOD = Pattern.compile(
        "^( {4,8})(?:(?:public|private|static|final) )*(?!public )[\\w<>\\[\\]]+ \\w+\\([^)]*\\)[\\w ,]* \\{$");

    private static Path program() {
        return Path.of(System.getProperty("program", "src/main/java/DeadMonday.java"));
    }

    /** The program without its comments and texts, line by line. */
    private static List<String> code(String program) {
        String bare = program.replaceAll("(?s)/\\*.*?\\*/", " ").replaceAll("\"[^\"\n]*\"", "\"\"").replaceAll("//[^\n]*", "");
        return bare.lines().toList();
    }

    private static List<Class<?>> classes() {
        List<Class<?>> classes = new ArrayList<>();
        classes.add(DeadMonday.class);
        for (Class<?> inside : DeadMonday.class.getDeclaredClasses()) classes.add(inside);
        return classes;
    }

    private static Set<String> publicNames() {
        Set<String> names = new TreeSet<>();
        for (Method m : DeadMonday.class.getDeclaredMethods()) if (Modifier.isPublic(m.getModifiers())) names.add(m.getName());
        return names;
    }

    private static void members() {
        Set<String> face = publicNames();
        for (Class<?> one : classes()) {
            Check.due("rule 2: " + one + " is static", one == DeadMonday.class || Modifier.isStatic(one.getModifiers()), true);
            int fields = 0;
            for (Field f : one.getDeclaredFields()) {
                boolean of = Modifier.isStatic(f.getModifiers());
                if (!of) fields++;
                Check.due("rule 5: " + f + " is final", !of || Modifier.isFinal(f.getModifiers()), true);
            }
            Check.due("rule 11: fields of " + one + ": " + fields, fields <= MOST_FIELDS, true);
            for (Method m : one.getDeclaredMethods()) {
                Check.due("rule 11: parameters of " + m, m.getParameterCount() <= MOST_PARAMETERS, true);
                boolean isFace = one == DeadMonday.class && Modifier.isPublic(m.getModifiers());
                Check.due("rule 1: the name of " + m, isFace || !face.contains(m.getName()), true);
            }
        }
        Check.due("rule 11: classes " + classes().size(), classes().size() <= MOST_CLASSES, true);
    }

    private static void signs(String program) {
        for (int k = 0; k < program.length(); k++) {
            char sign = program.charAt(k);
            if (sign < 1 || sign > 127) Check.due("rule 4: sign " + (int) sign + " at " + k, false, true);
        }
        Check.due("a program", program.isEmpty(), false);
    }

    private static void words(List<String> code) {
        for (int k = 0; k < code.size(); k++) {
            String line = code.get(k);
            for (String word : FORBIDDEN) {
                boolean is = Pattern.compile(word).matcher(line).find();
                Check.due("line " + (k + 1) + " of the bare program has " + word + ": " + line, is, false);
            }
            if (line.startsWith("import ")) Check.due(line, line.matches("import java\\.util\\.(Arrays|NoSuchElementException);"), true);
            Matcher call = Pattern.compile("\\b([A-Z][a-z]\\w*\\.[a-z]\\w*)\\(").matcher(line);
            while (call.find()) Check.due("rule 4: " + call.group(1), CALLED.contains(call.group(1)), true);
            if (line.contains("throw ")) Check.due("rule 6: " + line, line.matches(".*\\bthrow new [A-Z]\\w+(\\(\"\"\\));"), true);
        }
    }

    private static void lengths(List<String> code) {
        int methods = 0;
        for (int k = 0; k < code.size(); k++) {
            Matcher head = METHOD.matcher(code.get(k));
            if (!head.matches()) continue;
            int end = k;
            while (end < code.size() && !code.get(end).equals(head.group(1) + "}")) end++;
            Check.due("rule 11: lines of " + code.get(k).trim() + " " + (end - k + 1), end - k + 1 <= MOST_LINES, true);
            methods++;
        }
        int declared = 0;
        for (Class<?> one : classes()) {
            for (Method m : one.getDeclaredMethods()) if (!m.isSynthetic()) declared++;
        }
        Check.due("all " + declared + " methods are measured: " + methods, methods, declared);
    }

    public static void main(String[] args) throws IOException {
        String program = Files.readString(program());
        List<String> code = code(program);
        signs(program);
        words(code);
        lengths(code);
        members();
        Check.end("LanguageTest");
    }
}
