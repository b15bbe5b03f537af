import java.io.IOException;
import java.lang.reflect.Field;
import java.lang.reflect.Modifier;
import java.nio.charset.StandardCharsets;
import java.nio.file.Files;
import java.nio.file.Path;
import java.util.ArrayList;
import java.util.Arrays;
import java.util.LinkedHashMap;
import java.util.LinkedHashSet;
import java.util.List;
import java.util.Map;
import java.util.Set;
import java.util.regex.Matcher;
import java.util.regex.Pattern;

/** What can be seen of the rules of ../shared/LANGUAGE.md in the source of the class; FaceTest holds rule 1. */
public final class LanguageTest {
    private static final Due DUE = new Due("LanguageTest");
    private static final Path FILE = Path.of("src", "main", "java", "StripDepths.java");

    /** What stands in no program that keeps the rules, by the number of the rule. */
    private static final String[][] NEVER = {
        {"2", "->"}, {"2", "::"}, {"5", "\\bstatic\\s*\\{"}, {"6", "\\bfinally\\b"}, {"6", "\\bsynchronized\\b"},
        {"6", "\\bassert\\b"}, {"6", "\\btry\\s*\\("}, {"6", "\\bgetMessage\\b"}, {"6", "\\bThrowable\\b"},
        {"6", "\\bError\\b"}, {"6", "catch\\s*\\((?!IllegalStateException|IllegalArgumentException|ArithmeticException"
            + "|UnsupportedOperationException)"},
        {"6", "\\b(hashCode|toString|equals)\\s*\\(\\s*(Object\\s+\\w+)?\\)\\s*\\{"},
        {"9", "while\\s*\\(\\s*true"}, {"9", "for\\s*\\([^;]*;\\s*;"}, {"10", "\"\\s*\\+"}, {"10", "\\+\\s*\""},
        {"13", "\\b(Random|Thread|File|Files|Path|Scanner|Socket|Instant|Date|Runtime|ProcessBuilder)\\b"},
        {"13", "\\bimplements\\s+Runnable\\b"}};

    private static final Set<String> IMPORTS = Set.of("java.util.Arrays", "java.util.ArrayList", "java.util.List",
        "java.util.Iterator", "java.util.NoSuchElementException");

    private static final Set<String> LIBRARY = Set.of("System.arraycopy", "Arrays.copyOf", "Arrays.copyOfRange",
        "Arrays.fill", "List.of", "Math.max", "Math.min", "Math.abs", "Math.floorMod", "Math.floorDiv",
        "Integer.compare", "Integer.max", "Integer.min", "Integer.abs", "Integer.bitCount", "Long.compare",
        "Long.max", "Long.min", "Long.abs", "Long.bitCount");

    private static final Pattern METHOD = Pattern.compile("^ +(?!return\\b|else\\b|new\\b)(?:[\\w\\[\\]<>]+ )+(\\w+)\\([^;=]*\\) \\{$");

    public static void main(String[] args) throws IOException {
        String source = Files.readString(FILE, StandardCharsets.ISO_8859_1);
        signs(source);
        String code = source.replaceAll("(?s)/\\*.*?\\*/", "").replaceAll("//[^\n]*", "");
        words(code);
        library(code);
        classes();
        methods(code);
        DUE.end();
    }

    private static void signs(String source) {
        for (int i = 0; i < source.length(); i++) {
            if (source.charAt(i) > 126) {
                DUE.holds("rule 4: the sign " + (int) source.charAt(i) + " at " + i + " is one of 1 to 127", false);
            }
        }
    }

    private static void words(String code) {
        for (String[] never : NEVER) {
            Matcher matcher = Pattern.compile(never[1]).matcher(code);
            DUE.holds("rule " + never[0] + ": no " + never[1], !matcher.find());
        }
    }

    private static void library(String code) {
        Matcher imports = Pattern.compile("(?m)^import ([^;]+);").matcher(code);
        while (imports.find()) {
            DUE.holds("rule 4: the import of " + imports.group(1), IMPORTS.contains(imports.group(1)));
        }
        DUE.holds("no package", !code.startsWith("package"));
        Matcher calls = Pattern.compile("\\b(System|Arrays|List|Math|Integer|Long|String|Character)\\.(\\w+)").matcher(
            code.replaceAll("(?m)^import.*$", ""));
        while (calls.find()) {
            DUE.holds("rule 4: " + calls.group(), LIBRARY.contains(calls.group()));
        }
    }

    private static void classes() {
        List<Class<?>> all = new ArrayList<>(Arrays.asList(StripDepths.class.getDeclaredClasses()));
        for (Class<?> inside : all) {
            int modifiers = inside.getModifiers();
            DUE.holds("rule 1: " + inside + " is not open", !Modifier.isPublic(modifiers) && !Modifier.isProtected(modifiers));
            DUE.holds("rule 1: " + inside + " is static", Modifier.isStatic(modifiers));
        }
        all.add(StripDepths.class);
        DUE.holds("rule 11: at most twelve classes", all.size() <= 12);
        for (Class<?> one : all) {
            int fields = 0;
            for (Field field : one.getDeclaredFields()) {
                boolean isStatic = Modifier.isStatic(field.getModifiers());
                fields += isStatic ? 0 : 1;
                DUE.holds("rule 5: " + field + " is final", !isStatic || Modifier.isFinal(field.getModifiers()));
            }
            DUE.holds("rule 11: at most twenty fields in " + one, fields <= 20);
        }
    }

    /** Rule 11: short methods, and calls that go at most eight deep; rule 8: no recursion without a limit. */
    private static void methods(String code) {
        Map<String, Set<String>> called = new LinkedHashMap<>();
        String[] lines = code.split("\n");
        for (int i = 0; i < lines.length; i++) {
            Matcher matcher = METHOD.matcher(lines[i]);
            if (!matcher.matches()) {
                continue;
            }
            String end = lines[i].replaceAll("\\S.*", "") + "}";
            Set<String> calls = called.computeIfAbsent(matcher.group(1), name -> new LinkedHashSet<>());
            int first = i;
            while (!lines[i].equals(end)) {
                i++;
                addCalls(lines[i], calls);
            }
            DUE.holds("rule 11: " + matcher.group(1) + " has at most sixty lines", i - first < 60);
        }
        DUE.holds("the methods are found", called.size() > 35);
        for (String method : called.keySet()) {
            int depth = depthOf(method, called, 0);
            DUE.holds("rule 11: calls of " + method + " go at most eight deep, not " + depth, depth <= 8);
        }
    }

    private static void addCalls(String line, Set<String> calls) {
        Matcher matcher = Pattern.compile("\\b(?!if\\b|for\\b|while\\b|switch\\b|return\\b|catch\\b)(\\w+)\\(").matcher(line);
        while (matcher.find()) {
            calls.add(matcher.group(1));
        }
    }

    /** Methods of one name count as one; a call of itself goes beyond all bounds. */
    private static int depthOf(String method, Map<String, Set<String>> called, int above) {
        if (above > 40) {
            return above;
        }
        int deepest = 0;
        for (String other : called.getOrDefault(method, Set.of())) {
            deepest = Math.max(deepest, depthOf(other, called, above + 1));
        }
        return 1 + deepest;
    }
}
