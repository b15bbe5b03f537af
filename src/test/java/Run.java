import java.util.ArrayList;
import java.util.List;

/** A run of calls on a new object, held against what one sentence of the document says. */
final class Run {
    private final Due due;
    private final String sentence;
    private final StripDepths x = new StripDepths();
    private final List<Call> calls = new ArrayList<>();
    /** The calls without those that were to change nothing. */
    private final List<Call> changing = new ArrayList<>();
    private String told;
    private int toldBehind = -1;

    Run(Due due, String sentence) {
        this.due = due;
        this.sentence = sentence;
    }

    /** A new object for the same sentence. */
    Run anew() {
        return new Run(due, sentence);
    }

    private double answerOf(Call call) {
        if (calls.size() >= Tell.MOST_CALLS) {
            throw new IllegalStateException(sentence + ": more calls than an object has");
        }
        calls.add(call);
        return call.on(x);
    }

    /** Calls that must do what they are for, whatever they answer. */
    Run does(String... texts) {
        for (Call call : Call.all(texts)) {
            due.holds(sentence + ": " + call + " is no error", answerOf(call) >= 0);
            changing.add(call);
        }
        return this;
    }

    Run types(String text) {
        for (char sign : text.toCharArray()) {
            does("append(" + (int) sign + ")");
        }
        return this;
    }

    Run draws(String text) {
        return does("clear()").types(text).does("draw()");
    }

    Run winds(String text) {
        return does("clear()").types(text).does("wind()");
    }

    Run is(String text, double want) {
        Call call = new Call(text);
        due.is(sentence + ": " + call, answerOf(call), want);
        changing.add(call);
        return this;
    }

    Run atMost(String text, double greatest) {
        Call call = new Call(text);
        due.holds(sentence + ": " + call + " is at most " + greatest, answerOf(call) <= greatest);
        changing.add(call);
        return this;
    }

    /** A call that changes nothing: later calls answer as if it had not been. */
    Run leaves(String text, double want) {
        Call call = new Call(text);
        due.is(sentence + ": " + call, answerOf(call), want);
        return isAsBefore(text);
    }

    /** Calls that change something, and take it back. */
    Run takesBack(String... texts) {
        for (Call call : Call.all(texts)) {
            due.holds(sentence + ": " + call + " is no error", answerOf(call) >= 0);
        }
        return isAsBefore(String.join(" and ", texts));
    }

    private Run isAsBefore(String behind) {
        if (toldBehind != changing.size()) {
            told = Tell.of(changing);
            toldBehind = changing.size();
        }
        due.holds(sentence + ": all is as it was behind " + behind, Tell.of(calls).equals(told));
        return this;
    }

    Run refused(String text, int error) {
        return leaves(text, error);
    }

    /** A call with an argument, "?", that is too small and too large: just so, and as far as can be. */
    Run outside(String text, int least, int greatest) {
        for (int value : new int[] {least - 1, greatest + 1, Integer.MIN_VALUE, Integer.MAX_VALUE}) {
            refused(text.replace("?", String.valueOf(value)), StripDepths.INVALID_ARGUMENT);
        }
        return this;
    }

    /** A state in which every part holds something, so that a change of any of them shows. */
    Run filled() {
        winds("01234567");
        does("lay(0, 16, 3, 31, 2)", "printAll()", "paint(0, 5, 0)", "save()", "paint(1, 30, 1)", "set(4, 33)",
            "lot(77)", "set(2, 0)");
        return types("0,0:");
    }

    Run planes(int row, String want) {
        return tells(row, 0, want);
    }

    Run dots(int row, String want) {
        return tells(row, 1, want);
    }

    /** The planes that are seen, "." where it is blurred. */
    Run seen(int row, String want) {
        return tells(row, 2, want);
    }

    /** The dots that are remembered, "." where there is no smudge. */
    Run smudges(int row, String want) {
        return tells(row, 7, want);
    }

    private Run tells(int row, int what, String want) {
        StringBuilder got = new StringBuilder();
        for (int column = 0; column < 32; column++) {
            Call call = new Call("at(" + row + ", " + column + ", " + what + ")");
            int number = (int) answerOf(call);
            changing.add(call);
            got.append(number == StripDepths.NOT_FOUND ? "." : String.valueOf(number));
        }
        due.holds(sentence + ": row " + row + ", at " + what + ", is " + want + ", not " + got,
            want.contentEquals(got));
        return this;
    }
}
