import java.util.ArrayList;
import java.util.List;

/**
 * All that later calls show of the state behind a run of calls: the sheet, the settings, the lot, the strip, the pad,
 * each state of the history, and the snapshot. As an object has 512 calls at most, each look has an object of its own
 * on which the run is called again.
 */
final class Tell {
    static final int MOST_CALLS = 512;

    /** Ways to all states that an object holds. */
    private static final List<List<Call>> WAYS = List.of(Call.all(), Call.all("undo()"), Call.all("undo()", "undo()"),
        Call.all("undo()", "undo()", "undo()"), Call.all("undo()", "undo()", "undo()", "undo()"),
        Call.all("restore()"));

    private static final List<List<Call>> LOOKS = List.of(rowsFrom(0), rowsFrom(2), rowsFrom(4), rowsFrom(6), texts());

    private Tell() {
    }

    static String of(List<Call> calls) {
        StringBuilder told = new StringBuilder();
        for (List<Call> way : WAYS) {
            for (List<Call> look : LOOKS) {
                if (!tell(calls, way, look, told)) {
                    break;
                }
            }
        }
        return told.toString();
    }

    /** False if there is no such way. */
    private static boolean tell(List<Call> calls, List<Call> way, List<Call> look, StringBuilder told) {
        if (calls.size() + way.size() + look.size() > MOST_CALLS) {
            throw new IllegalStateException("a run of " + calls.size() + " calls leaves too few to look at it");
        }
        StripDepths x = new StripDepths();
        for (Call call : calls) {
            call.on(x);
        }
        for (Call call : way) {
            double answer = call.on(x);
            told.append(call).append(' ').append(answer).append('\n');
            if (answer < 0) {
                return false;
            }
        }
        for (Call call : look) {
            told.append(call).append(' ').append(call.on(x)).append('\n');
        }
        return true;
    }

    private static List<Call> rowsFrom(int first) {
        List<Call> calls = new ArrayList<>();
        addRow(calls, first, 0, 1, 7);
        addRow(calls, first + 1, 0, 1, 7);
        for (int what = 9; what <= 18; what++) {
            calls.add(new Call("count(" + what + ")"));
        }
        // What the pad draws, if it can be drawn.
        calls.addAll(Call.all("fault(0)", "fault(1)", "draw()"));
        addRow(calls, first, 0);
        addRow(calls, first + 1, 0);
        return calls;
    }

    private static void addRow(List<Call> calls, int row, int... whats) {
        for (int what : whats) {
            for (int column = 0; column < 32; column++) {
                calls.add(new Call("at(" + row + ", " + column + ", " + what + ")"));
            }
        }
    }

    /** The strip shows where it prints; then the pad, if it can be wound, then how the pad goes on. */
    private static List<Call> texts() {
        List<Call> calls = Call.all("set(0, 16)", "lay(0, 0, 7, 31, 0)", "print(0)");
        addRow(calls, 0, 1);
        calls.addAll(Call.all("wind()", "print(0)"));
        addRow(calls, 0, 1);
        calls.addAll(Call.all("append(48)", "fault(0)", "fault(1)", "clear()"));
        return calls;
    }
}
