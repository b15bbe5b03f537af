import java.lang.reflect.InvocationTargetException;
import java.lang.reflect.Method;
import java.lang.reflect.Modifier;
import java.util.ArrayList;
import java.util.HashMap;
import java.util.List;
import java.util.Map;

/** A call of the face, told as a text such as "lay(0, 10, 0, 18, 2)". */
final class Call {
    private static final Map<String, Method> FACE = new HashMap<>();

    static {
        for (Method method : StripDepths.class.getDeclaredMethods()) {
            if (Modifier.isPublic(method.getModifiers())) {
                FACE.put(method.getName(), method);
            }
        }
    }

    private final String text;
    private final Method method;
    private final Object[] arguments;

    Call(String text) {
        this.text = text;
        int open = text.indexOf('(');
        method = FACE.get(text.substring(0, open));
        String inside = text.substring(open + 1, text.length() - 1).trim();
        String[] numbers = inside.isEmpty() ? new String[0] : inside.split(",");
        arguments = new Object[numbers.length];
        for (int i = 0; i < numbers.length; i++) {
            arguments[i] = Integer.valueOf(numbers[i].trim());
        }
    }

    static List<Call> all(String... texts) {
        List<Call> calls = new ArrayList<>();
        for (String text : texts) {
            calls.add(new Call(text));
        }
        return calls;
    }

    double on(StripDepths x) {
        try {
            return ((Number) method.invoke(x, arguments)).doubleValue();
        } catch (IllegalAccessException | InvocationTargetException e) {
            throw new IllegalStateException(text, e);
        }
    }

    @Override
    public String toString() {
        return text;
    }
}
