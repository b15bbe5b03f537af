import java.lang.reflect.Method;
import java.util.ArrayList;
import java.util.Arrays;
import java.util.Comparator;
import java.util.List;
import java.util.Random;

/** Runs of 512 calls on an object and on the reference: all answers must be the same. The seeds are fixed. */
public final class RandomRunsTest {
    private static final int RUNS = 250;
    private static final int CALLS = 512;

    /** For each argument by name of the call: its least and greatest value. */
    private static int[][] rangesOf(String call) {
        int[] row = {0, 7};
        int[] column = {0, 31};
        int[] dot = {0, 7};
        int[] plane = {0, 4};
        return switch (call) {
            case "lay" -> new int[][] {row, column, row, column, plane};
            case "shift" -> new int[][] {row, {-31, 31}};
            case "paint" -> new int[][] {row, column, dot};
            case "set" -> new int[][] {{0, 5}, {0, 120}};
            case "lot" -> new int[][] {{0, 9999}};
            case "append" -> new int[][] {{33, 126}};
            case "fault" -> new int[][] {{0, 1}};
            case "at" -> new int[][] {row, column, {0, 7}};
            case "fits" -> new int[][] {row, column, plane};
            case "row" -> new int[][] {row, {0, 10}};
            case "echo" -> new int[][] {row, {2, 24}};
            case "echoAt" -> new int[][] {row, {0, 22}};
            case "plane" -> new int[][] {plane, {0, 3}};
            case "count" -> new int[][] {{0, 18}};
            case "away" -> new int[][] {plane};
            case "ifPainted" -> new int[][] {row, column, dot, {0, 2}};
            case "ifPrinted" -> new int[][] {row, {6, 16}};
            case "swap", "alike" -> new int[][] {row, row};
            default -> new int[][] {row};
        };
    }

    private static final int[][] SETTINGS = {{6, 16}, {2, 8}, {0, 3}, {0, 1}, {20, 99}, {10, 400}};
    private static final int[] WILD = {Integer.MIN_VALUE, Integer.MAX_VALUE, -1000000, 1000000, -33, -2, -1, 32, 127, 256};

    private final Due due = new Due("RandomRunsTest");
    private final List<Method> calls = new ArrayList<>();
    private final List<String> shapes = Reference.allShapes();
    private Random random;
    private StripDepths x;
    private Reference reference;
    private int called;

    public static void main(String[] args) throws Exception {
        RandomRunsTest test = new RandomRunsTest();
        for (int run = 0; run < RUNS; run++) {
            test.run(run);
        }
        test.due.end();
    }

    private RandomRunsTest() {
        for (Method method : StripDepths.class.getDeclaredMethods()) {
            if (java.lang.reflect.Modifier.isPublic(method.getModifiers())) {
                calls.add(method);
            }
        }
        calls.sort(Comparator.comparing(Method::getName));
    }

    private void run(int seed) throws Exception {
        random = new Random(seed);
        x = new StripDepths();
        reference = new Reference();
        called = 0;
        // Few rows and wide planes make rows that are worth looking at.
        for (int i = random.nextInt(6); i > 0; i--) {
            int left = random.nextInt(32);
            call("lay", random.nextInt(3), left, 2 + random.nextInt(6), left + random.nextInt(32 - left), random.nextInt(5));
        }
        if (random.nextBoolean()) {
            callAny("printAll");
        }
        while (called < CALLS) {
            if (random.nextInt(12) == 0) {
                writeText();
            } else {
                callAny(calls.get(random.nextInt(calls.size())).getName());
            }
        }
    }

    private void callAny(String name) throws Exception {
        int[][] ranges = rangesOf(name);
        Object[] arguments = new Object[methodOf(StripDepths.class, name).getParameterCount()];
        for (int i = 0; i < arguments.length; i++) {
            arguments[i] = anyOf(ranges[i]);
        }
        if (name.equals("set") && random.nextInt(8) != 0) {
            int what = random.nextInt(6);
            arguments[0] = what;
            arguments[1] = anyOf(SETTINGS[what]);
        }
        if (name.equals("clear") && random.nextInt(4) != 0 || name.equals("restore") && random.nextInt(3) != 0) {
            return;
        }
        call(name, arguments);
    }

    private int anyOf(int[] range) {
        int way = random.nextInt(60);
        if (way == 0) {
            return WILD[random.nextInt(WILD.length)];
        }
        if (way == 1) {
            return random.nextBoolean() ? range[0] - 1 : range[1] + 1;
        }
        return range[0] + random.nextInt(range[1] - range[0] + 1);
    }

    private void writeText() throws Exception {
        StringBuilder text = new StringBuilder();
        boolean asShapes = random.nextBoolean();
        if (asShapes) {
            for (int i = random.nextInt(4); i >= 0; i--) {
                text.append(shapes.get(random.nextInt(shapes.size()))).append(i > 0 ? ";" : "");
            }
        } else {
            for (int i = random.nextInt(26); i >= 0; i--) {
                text.append((char) ('0' + random.nextInt(8)));
            }
        }
        if (random.nextInt(3) == 0) {
            text.setCharAt(random.nextInt(text.length()), "0123456789,-:;/<a".charAt(random.nextInt(17)));
        }
        if (random.nextInt(6) == 0) {
            text.setLength(random.nextInt(text.length()));
        }
        if (random.nextInt(5) != 0) {
            call("clear");
        }
        for (int i = 0; i < text.length(); i++) {
            call("append", (int) text.charAt(i));
        }
        call("fault", 0);
        call("fault", 1);
        call(asShapes ? "draw" : "wind");
    }

    private void call(String name, Object... arguments) throws Exception {
        if (called >= CALLS) {
            return;
        }
        called++;
        Number got = (Number) methodOf(StripDepths.class, name).invoke(x, arguments);
        Number want = (Number) methodOf(Reference.class, name).invoke(reference, arguments);
        due.is(name + Arrays.toString(arguments) + " as call " + called, got.doubleValue(), want.doubleValue());
    }

    private static Method methodOf(Class<?> type, String name) {
        for (Method method : type.getDeclaredMethods()) {
            if (method.getName().equals(name) && java.lang.reflect.Modifier.isPublic(method.getModifiers())) {
                return method;
            }
        }
        throw new IllegalStateException(name);
    }
}
