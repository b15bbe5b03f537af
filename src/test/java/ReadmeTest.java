import java.io.IOException;
import java.lang.reflect.Method;
import java.lang.reflect.Modifier;
import java.nio.file.Files;
import java.nio.file.Path;
import java.util.List;
import java.util.regex.Matcher;
import java.util.regex.Pattern;

/** What README.md says of the use: its calls answer as it tells, and it names each call of the face. */
public final class ReadmeTest {
    private static final Due DUE = new Due("ReadmeTest");
    private static final String NEW_OBJECT = "StripDepths x = new StripDepths();";
    private static final Pattern TOLD = Pattern.compile("x\\.(\\w+\\(.*\\)); +// (-?\\d+(?:\\.\\d+)?)(?:: .*)?");

    public static void main(String[] args) throws IOException {
        List<String> lines = Files.readAllLines(Path.of("README.md"));
        answers(lines);
        names(String.join("\n", lines));
        DUE.end();
    }

    private static void answers(List<String> lines) {
        StripDepths x = new StripDepths();
        boolean inCode = false;
        int told = 0;
        for (String line : lines) {
            if (line.startsWith("```")) {
                inCode = line.equals("```java");
            } else if (inCode && line.equals(NEW_OBJECT)) {
                x = new StripDepths();
            } else if (inCode) {
                answer(x, line);
                told++;
            }
        }
        DUE.holds("some answers are told", told > 0);
    }

    private static void answer(StripDepths x, String line) {
        Matcher matcher = TOLD.matcher(line);
        boolean isTold = matcher.matches();
        DUE.holds("a call and its answer: " + line, isTold);
        if (isTold) {
            String call = withNumbers(matcher.group(1));
            DUE.is(line, new Call(call).on(x), Double.parseDouble(matcher.group(2)));
        }
    }

    /** A call with numbers alone, as Call reads it. */
    private static String withNumbers(String call) {
        String told = call.replace("StripDepths.COLORS", String.valueOf(StripDepths.COLORS));
        told = told.replace("StripDepths.GAP", String.valueOf(StripDepths.GAP));
        Matcher sign = Pattern.compile("'(.)'").matcher(told);
        return sign.find() ? sign.replaceFirst(String.valueOf((int) sign.group(1).charAt(0))) : told;
    }

    private static void names(String readme) {
        for (Method method : StripDepths.class.getDeclaredMethods()) {
            if (Modifier.isPublic(method.getModifiers())) {
                DUE.holds("the name of " + method.getName(), readme.contains("`" + method.getName() + "`"));
            }
        }
        DUE.holds("how the tests are run", readme.contains("bash .ci/run"));
    }
}
