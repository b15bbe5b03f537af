/** The bounds that the document names in the promises 29 to 33. */
final class WouldBeCallBounds {
    private static final int NONE = StripDepths.NOT_FOUND;
    private static final String EIGHT = "01234567";

    private final Document document;

    WouldBeCallBounds(Document document) {
        this.document = document;
    }

    void hold() {
        ifPaintedPlace();
        ifPaintedDot();
        ifPaintedWhat();
        ifPaintedAnswer();
        ifPrintedOther();
        ifPrintedArguments();
        ifPrintedAnswer();
        shortestRow();
        shortestAnswer();
        bestWindowRow();
        bestWindowAnswer();
        alikeRows();
        alikeAnswer();
    }

    private void ifPaintedPlace() {
        Run run = document.run("Promise 29", "row: 0 to 7").filled().outside("ifPainted(?, 31, 0, 0)", 0, 7);
        run.leaves("ifPainted(0, 31, 0, 0)", 1).leaves("ifPainted(1, 31, 0, 0)", 1).leaves("ifPainted(6, 31, 0, 0)", 1);
        run.leaves("ifPainted(7, 31, 0, 0)", 1);
        run = document.run("Promise 29", "column: 0 to 31").filled().outside("ifPainted(4, ?, 0, 0)", 0, 31);
        // With 7 at 0 the plane 1 fits at 7, and none at 8.
        told(run, "4, 0, 7", 2, 23, 8);
        told(run, "4, 1, 0", 1, 23, 8);
        // With 7 at 30 it is like 23, by the plane 1.
        told(run, "4, 30, 7", 1, 23, 0);
        told(run, "4, 31, 6", 1, 23, 0);
    }

    private static void told(Run run, String painted, int otherwise, int right, int farthest) {
        run.leaves("ifPainted(" + painted + ", 0)", otherwise).leaves("ifPainted(" + painted + ", 1)", right);
        run.leaves("ifPainted(" + painted + ", 2)", farthest);
    }

    private void ifPaintedDot() {
        Run run = document.run("Promise 29", "dot: 0 to 7").filled().outside("ifPainted(4, 31, ?, 0)", 0, 7);
        told(run, "4, 31, 0", 1, 23, 0);
        told(run, "4, 31, 1", 1, 23, 0);
        told(run, "4, 31, 6", 1, 23, 0);
        told(run, "4, 31, 7", 0, 24, NONE);
    }

    private void ifPaintedWhat() {
        Run run = document.run("Promise 29", "what: 0: how many places of the row would be seen");
        run.winds(EIGHT).does("print(0)", "set(2, 3)").outside("ifPainted(0, 20, 0, ?)", 0, 2);
        // The window of 3: 17 to 23 would be blurred, and 25 to 31, as 28 is held against 20.
        told(run, "0, 20, 0", 14, 10, 11);
        // To the left alone: 28 to 31.
        told(run, "0, 31, 0", 4, 20, 3);
        // Its own dot changes nothing: no place is farthest.
        told(run, "0, 20, 4", 0, 24, NONE);
        // A place that is seen otherwise there alone is 0 columns away.
        run.does("set(2, 0)");
        told(run, "0, 31, 0", 1, 23, 0);
    }

    private void ifPaintedAnswer() {
        Run run = document.run("Promise 29", "Returns the number").does("set(0, 6)", "lay(0, 0, 0, 31, 4)", "set(2, 0)");
        // All are right from 2 on. With 1 at 31 it is blurred; with 1 at 0 just 2 is.
        told(run, "0, 31, 1", 1, 29, 0);
        told(run, "0, 0, 1", 1, 29, 2);
        told(run, "0, 0, 0", 0, 30, NONE);
        told(run, "1, 0, 0", 0, 0, NONE);
        run.does("paint(0, 31, 7)").leaves("ifPainted(0, 31, 0, 0)", 1).leaves("ifPainted(0, 31, 0, 1)", 30);
    }

    private void ifPrintedOther() {
        Run run = document.run("Promise 30", "with the lot, the strip, the planes and the other settings of now");
        // The PERIOD of now is no other one, but in the range.
        run.winds(EIGHT).does("set(2, 0)").leaves("ifPrinted(0, 8)", 24).does("lay(0, 31, 0, 31, 2)");
        // 31 is bound to 25 then: it would be right too. With CROSSED those of the plane 2 alone.
        run.leaves("ifPrinted(0, 8)", 24).leaves("ifPrinted(0, 16)", 16).does("set(3, 1)").leaves("ifPrinted(0, 8)", 1);
        // With a window of 3, 28 to 31 would be blurred, as 31 is no dot of the plane 0, nor 28 of the plane 2.
        run.does("set(3, 0)", "set(2, 3)").leaves("ifPrinted(0, 8)", 20);
        // With the lot, smudges and dots of now do not count.
        run.anew().does("set(1, 8)", "paint(0, 3, 1)", "paint(0, 30, 6)").leaves("ifPrinted(0, 8)", 24).is("count(9)", 1);
        run.anew().winds("0").leaves("ifPrinted(0, 8)", 0).does("unwind()", "set(1, 8)").leaves("ifPrinted(0, 8)", 24);
    }

    private void ifPrintedArguments() {
        Run run = document.run("Promise 30", "row: 0 to 7").filled().outside("ifPrinted(?, 8)", 0, 7);
        run.leaves("ifPrinted(0, 8)", 24).leaves("ifPrinted(1, 8)", 24).leaves("ifPrinted(6, 8)", 24);
        run.leaves("ifPrinted(7, 8)", 24);
        run = document.run("Promise 30", "period: 6 to 16").filled().outside("ifPrinted(4, ?)", 6, 16);
        run.leaves("ifPrinted(4, 6)", 26).leaves("ifPrinted(4, 7)", 25).leaves("ifPrinted(4, 15)", 17);
        run.leaves("ifPrinted(4, 16)", 16);
    }

    private void ifPrintedAnswer() {
        Run run = document.run("Promise 30", "how many places of the row would be seen right").winds("0");
        run.leaves("ifPrinted(0, 6)", 0).leaves("ifPrinted(0, 16)", 0).does("lay(0, 0, 0, 31, 4)");
        run.leaves("ifPrinted(0, 6)", 30).leaves("ifPrinted(0, 7)", 29).leaves("ifPrinted(0, 16)", 20).does("lay(0, 0, 0, 30, 0)");
        run.leaves("ifPrinted(0, 6)", 1).leaves("ifPrinted(0, 16)", 1);
    }

    private void shortestRow() {
        Run run = document.run("Promise 31", "row: 0 to 7").filled().outside("shortest(?)", 0, 7);
        run.leaves("shortest(0)", 6).leaves("shortest(1)", 6).leaves("shortest(6)", 6).leaves("shortest(7)", 6);
        // Each row for itself: with even periods the plane 4 is seen, and laid on the row 0 alone.
        run = run.anew().winds("01").does("lay(0, 0, 0, 31, 4)").leaves("shortest(0)", 6).leaves("shortest(1)", 7);
        run.leaves("shortest(7)", 7);
    }

    private void shortestAnswer() {
        Run run = document.run("Promise 31", "Returns the least period, 6 to 16");
        shortestOf(run, EIGHT, 6, 26);
        // With 6 and all even ones the row comes again after 2, and the plane 4 is seen.
        shortestOf(run, "01", 7, 25);
        // With less than 15, and 16, all dots are alike ahead of the fifteenth one, or the sixteenth one.
        shortestOf(run, "0000000000000010", 15, 17);
        shortestOf(run, "0000000000000001", 16, 16);
        // None is right with any: of all the least one.
        shortestOf(run, "0", 6, 0);
        run = run.anew().does("lay(0, 0, 0, 31, 4)").winds("0").leaves("shortest(0)", 6).leaves("ifPrinted(0, 6)", 30);
        // Just 31 is right with all of them.
        run.does("lay(0, 0, 0, 30, 0)").leaves("shortest(0)", 6).leaves("ifPrinted(0, 6)", 1).leaves("ifPrinted(0, 16)", 1);
        // One place that is seen right is more than none.
        run = run.anew().winds("011").does("set(3, 1)", "set(2, 3)", "lay(0, 31, 0, 31, 2)").leaves("shortest(0)", 7);
        run.leaves("ifPrinted(0, 6)", 0).leaves("ifPrinted(0, 7)", 1).leaves("ifPrinted(0, 16)", 1);
    }

    private void shortestOf(Run run, String strip, int period, int right) {
        Run next = run.anew().winds(strip).leaves("shortest(3)", period).leaves("ifPrinted(3, " + period + ")", right);
        for (int other = 6; other <= 16; other++) {
            int want = other < period ? right - 1 : right;
            next.atMost("ifPrinted(3, " + other + ")", want);
        }
    }

    private void bestWindowRow() {
        Run run = document.run("Promise 32", "row: 0 to 7").filled().outside("bestWindow(?)", 0, 7);
        run.leaves("bestWindow(0)", 0).leaves("bestWindow(1)", 0).leaves("bestWindow(6)", 0).leaves("bestWindow(7)", 0);
        run = run.anew().winds("00000120").does("print(0)", "print(7)").leaves("bestWindow(0)", 3).leaves("bestWindow(7)", 3);
        run.leaves("bestWindow(1)", 0).leaves("bestWindow(6)", 0);
    }

    private void bestWindowAnswer() {
        Run run = document.run("Promise 32", "of several the least one");
        windowsOf(run.anew(), EIGHT, 0, 24, 24, 24, 24);
        windowsOf(run.anew(), "0", 0, 0, 0, 0, 0);
        // At 8 the planes 2 and 4 fit without a window: eyes that have 3 take 4.
        windowsOf(run.anew(), "13121", 1, 23, 24, 24, 24);
        windowsOf(run.anew(), "33113", 2, 21, 23, 24, 24);
        windowsOf(run.anew(), "01001", 3, 0, 22, 23, 24);
        // One place that is seen right is more than none.
        windowsOf(run.anew().does("lay(0, 25, 0, 30, 1)"), "20", 1, 0, 1, 1, 0);
    }

    private void windowsOf(Run run, String strip, int best, int... right) {
        Run next = run.winds(strip).does("print(0)").leaves("bestWindow(0)", best).is("count(15)", 1);
        for (int window = 0; window <= 3; window++) {
            // It goes by all windows, whichever is set.
            next.does("set(2, " + window + ")").is("row(0, 4)", right[window]).is("bestWindow(0)", best);
        }
    }

    private void alikeRows() {
        Run run = document.run("Promise 33", "row: 0 to 7").filled().outside("alike(?, 4)", 0, 7);
        // The smudge of row 0 is seen at 5 and 13, that of row 1 at 30.
        run.leaves("alike(0, 2)", 30).leaves("alike(1, 2)", 31).leaves("alike(6, 4)", 32).leaves("alike(7, 4)", 32);
        run = document.run("Promise 33", "other: 0 to 7").filled().outside("alike(4, ?)", 0, 7);
        // Rows 2 and 4 are alike up to 15.
        run.leaves("alike(2, 4)", 16).leaves("alike(4, 2)", 16).leaves("alike(2, 0)", 30).leaves("alike(2, 1)", 31);
        run.leaves("alike(4, 6)", 32).leaves("alike(4, 7)", 32).leaves("alike(4, 4)", 32).leaves("alike(0, 0)", 32);
    }

    private void alikeAnswer() {
        Run run = document.run("Promise 33", "Returns at how many columns both are seen with the same plane").is("alike(0, 7)", 32);
        run.does("paint(0, 31, 1)").is("alike(0, 7)", 30).does("set(2, 0)").is("alike(0, 7)", 31);
        // Both blurred up to 11, then the plane 4 on the one and nothing on the other; 0 to 1 are blurred always.
        run = run.anew().winds(EIGHT).does("print(0)", "set(0, 15)").is("alike(0, 7)", 11).is("alike(7, 0)", 11);
        run = run.anew().winds("01122334").does("set(0, 16)", "print(0)", "set(0, 6)", "set(2, 0)");
        run.is("row(0, 6)", 32).is("alike(0, 7)", 2).is("alike(7, 0)", 2).is("alike(0, 0)", 32);
    }
}
