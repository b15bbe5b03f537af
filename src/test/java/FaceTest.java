import java.lang.reflect.Field;
import java.lang.reflect.Method;
import java.lang.reflect.Modifier;
import java.util.ArrayList;
import java.util.Arrays;
import java.util.List;

/** The public face is the document's, and the class has nothing else that is not private. */
public final class FaceTest {
    private static final Due DUE = new Due("FaceTest");

    private static final String[] CALLS = {"int lay 5", "int shift 2", "int swap 2", "int turn 1", "int print 1",
        "int printAll 0", "int paint 3", "int wipe 1", "int set 2", "int lot 1", "int append 1", "int clear 0",
        "int fault 1", "int draw 0", "int wind 0", "int unwind 0", "int at 3", "int fits 3", "int row 2", "int echo 2",
        "int echoAt 2", "int faulty 1", "int plane 2", "int pictures 0", "int count 1", "float away 1",
        "double clearness 1", "int ifPainted 4", "int ifPrinted 2", "int shortest 1", "int bestWindow 1",
        "int alike 2", "int undo 0", "int save 0", "int restore 0"};

    private static final String[] CONSTANTS = {"INVALID_ARGUMENT -1", "NOT_POSSIBLE -2", "LIMIT_REACHED -3",
        "NOT_FOUND -4", "PERIOD 0", "COLORS 1", "WINDOW 2", "CROSSED 3", "GAP 4", "DISTANCE 5"};

    public static void main(String[] args) throws Exception {
        Class<?> type = StripDepths.class;
        DUE.is("the class is public and final", type.getModifiers(), Modifier.PUBLIC | Modifier.FINAL);
        DUE.is("constructors", type.getDeclaredConstructors().length, 1);
        DUE.is("one without arguments", type.getConstructors()[0].getParameterCount(), 0);
        calls(type);
        constants(type);
        names(type);
        DUE.end();
    }

    private static void calls(Class<?> type) {
        List<String> found = new ArrayList<>();
        for (Method method : type.getDeclaredMethods()) {
            if (!Modifier.isPrivate(method.getModifiers())) {
                found.add(method.getReturnType() + " " + method.getName() + " " + method.getParameterCount());
                DUE.holds(method.getName() + " is public", (method.getModifiers() & ~Modifier.FINAL) == Modifier.PUBLIC);
                for (Class<?> parameter : method.getParameterTypes()) {
                    DUE.holds(method.getName() + " takes int", parameter == int.class);
                }
            }
        }
        same("calls", found, Arrays.asList(CALLS));
    }

    private static void constants(Class<?> type) throws Exception {
        List<String> found = new ArrayList<>();
        int wanted = Modifier.PUBLIC | Modifier.STATIC | Modifier.FINAL;
        for (Field field : type.getDeclaredFields()) {
            if (!Modifier.isPrivate(field.getModifiers())) {
                DUE.is("the modifiers of " + field.getName(), field.getModifiers(), wanted);
                found.add(field.getName() + " " + field.getInt(null));
            }
        }
        same("constants", found, Arrays.asList(CONSTANTS));
    }

    private static void names(Class<?> type) {
        List<String> face = new ArrayList<>();
        for (Method method : type.getMethods()) {
            face.add(method.getName());
        }
        List<Class<?>> all = new ArrayList<>(Arrays.asList(type.getDeclaredClasses()));
        all.add(type);
        for (Class<?> one : all) {
            for (Method method : one.getDeclaredMethods()) {
                boolean isPublic = Modifier.isPublic(method.getModifiers());
                DUE.holds(method.getName() + " has a name of its own", isPublic || !face.contains(method.getName()));
                DUE.holds(method.getName() + " has at most seven parameters", method.getParameterCount() <= 7);
            }
        }
        DUE.holds("at most twelve classes", all.size() <= 12);
    }

    private static void same(String what, List<String> found, List<String> wanted) {
        List<String> some = new ArrayList<>(found);
        List<String> others = new ArrayList<>(wanted);
        some.sort(null);
        others.sort(null);
        DUE.holds("the " + what + " are " + others + ", not " + some, some.equals(others));
    }
}
