/** The bounds that the document names in the promises 1 to 5. */
final class PlaneCallBounds {
    private static final int INVALID = StripDepths.INVALID_ARGUMENT;
    private static final int NONE = StripDepths.NOT_FOUND;
    private static final String ZEROS = "0".repeat(32);

    private final Document document;

    PlaneCallBounds(Document document) {
        this.document = document;
    }

    void hold() {
        newObject();
        layTop();
        layLeft();
        layBottom();
        layRight();
        layPlane();
        layAnswer();
        shiftLost();
        shiftRow();
        shiftBy();
        shiftAnswer();
        swapAll();
        swapRow();
        swapOther();
        swapAnswer();
        turnRound();
        turnRow();
        turnAnswer();
    }

    private void newObject() {
        Run run = document.run("Promise 1", "all planes and dots are 0");
        for (int row = 0; row < 8; row++) {
            run.planes(row, ZEROS).dots(row, ZEROS);
        }
        run = run.anew().is("count(0)", 0).is("count(8)", 0).is("count(10)", 0).refused("unwind()", StripDepths.NOT_POSSIBLE);
        run.is("plane(0, 0)", 256).is("row(0, 9)", 1).is("row(7, 9)", 1).is("at(0, 0, 7)", NONE).is("at(7, 31, 7)", NONE);
        // One object has nothing to do with another one.
        run.does("lay(0, 0, 7, 31, 4)", "paint(0, 0, 7)", "lot(9)").winds("7");
        run.anew().is("count(0)", 0).is("count(8)", 0).is("count(9)", 1).is("count(10)", 0).is("count(12)", 0);
    }

    private void layTop() {
        Run run = document.run("Promise 2", "top: 0 to 7: the first row").filled();
        run.is("lay(0, 0, 7, 0, 4)", 8).is("lay(1, 1, 7, 1, 4)", 7).is("lay(6, 2, 7, 2, 4)", 2).is("lay(7, 3, 7, 3, 4)", 1);
        run.planes(0, "4" + "0".repeat(15) + "2".repeat(16)).planes(7, "4444" + "0".repeat(28));
        run.outside("lay(?, 0, 7, 0, 1)", 0, 7);
        run.refused("lay(8, 0, 8, 0, 1)", INVALID).refused("lay(-1, 0, -1, 0, 1)", INVALID);
    }

    private void layLeft() {
        Run run = document.run("Promise 2", "left: 0 to 31: the first column").filled();
        run.is("lay(4, 0, 4, 31, 4)", 32).is("lay(5, 1, 5, 31, 4)", 31).is("lay(6, 30, 6, 31, 4)", 2);
        run.is("lay(7, 31, 7, 31, 4)", 1).planes(4, "4".repeat(32)).planes(5, "0" + "4".repeat(31));
        run.planes(6, "0".repeat(30) + "44").planes(7, "0".repeat(31) + "4");
        run.outside("lay(4, ?, 4, 31, 1)", 0, 31);
        run.refused("lay(4, 32, 4, 32, 1)", INVALID).refused("lay(4, -1, 4, -1, 1)", INVALID);
    }

    private void layBottom() {
        Run run = document.run("Promise 2", "bottom: top to 7").filled();
        run.is("lay(4, 0, 4, 0, 4)", 1).is("lay(4, 1, 5, 1, 4)", 2).is("lay(4, 2, 6, 2, 4)", 3).is("lay(4, 3, 7, 3, 4)", 4);
        run.planes(3, "0".repeat(16) + "2".repeat(16)).planes(5, "0444" + "0".repeat(28)).planes(7, "0004" + "0".repeat(28));
        run.outside("lay(4, 0, ?, 0, 1)", 4, 7).outside("lay(7, 0, ?, 0, 1)", 7, 7).outside("lay(0, 0, ?, 0, 1)", 0, 7);
        run.is("lay(0, 0, 0, 0, 1)", 1).is("lay(7, 0, 7, 0, 1)", 1);
    }

    private void layRight() {
        Run run = document.run("Promise 2", "right: left to 31").filled();
        run.is("lay(4, 9, 4, 9, 4)", 1).is("lay(5, 9, 5, 10, 4)", 2).is("lay(6, 9, 6, 30, 4)", 22);
        run.is("lay(7, 9, 7, 31, 4)", 23).planes(5, "0".repeat(9) + "44" + "0".repeat(21));
        run.planes(6, "0".repeat(9) + "4".repeat(22) + "0").planes(7, "0".repeat(9) + "4".repeat(23));
        run.outside("lay(4, 9, 4, ?, 1)", 9, 31).outside("lay(4, 31, 4, ?, 1)", 31, 31);
        run.outside("lay(4, 0, 4, ?, 1)", 0, 31).is("lay(4, 0, 4, 0, 1)", 1).is("lay(4, 31, 4, 31, 1)", 1);
    }

    private void layPlane() {
        Run run = document.run("Promise 2", "plane: 0 to 4").filled();
        run.is("lay(4, 0, 4, 0, 1)", 1).is("lay(4, 0, 4, 0, 0)", 1).is("lay(4, 0, 4, 0, 3)", 1).is("lay(4, 0, 4, 0, 4)", 1);
        run.outside("lay(4, 0, 4, 0, ?)", 0, 4).is("at(4, 0, 0)", 4);
    }

    private void layAnswer() {
        Run run = document.run("Promise 2", "Returns how many places have another plane than before");
        run.is("lay(0, 0, 7, 31, 0)", 0).is("lay(0, 0, 7, 31, 4)", 256).is("lay(0, 0, 7, 31, 4)", 0);
        run.is("lay(3, 3, 3, 3, 1)", 1).is("lay(0, 0, 7, 31, 4)", 1).is("lay(3, 3, 3, 3, 1)", 1).is("lay(0, 0, 7, 31, 1)", 255);
    }

    private void shiftLost() {
        Run run = document.run("Promise 3", "Moves the planes of a row to the right");
        // 1 and 2 at the left edge, 3 and 4 at the right one; the rows beside it stay.
        run.draws("1,0:1;1,1:2;1,30:3;1,31:4;0,0-31:3;2,0-31:3");
        run.is("shift(1, 1)", 3).planes(1, "012" + "0".repeat(28) + "3").does("undo()");
        run.is("shift(1, -1)", 3).planes(1, "2" + "0".repeat(28) + "340").does("undo()");
        run.is("shift(1, 30)", 2).planes(1, "0".repeat(30) + "12").does("undo()");
        run.is("shift(1, -30)", 2).planes(1, "34" + "0".repeat(30)).does("undo()");
        run.is("plane(3, 0)", 65).is("row(0, 0)", 5).is("row(2, 0)", 5);
        // What is lost does not come back.
        run.is("shift(1, 31)", 1).is("shift(1, -31)", 1).planes(1, "1" + "0".repeat(31));
        run.is("shift(1, -1)", 0).is("shift(1, 1)", 0).planes(1, ZEROS);
    }

    private void shiftRow() {
        Run run = document.run("Promise 3", "row: 0 to 7").filled();
        run.is("shift(0, 1)", 15).is("shift(1, 1)", 15).is("shift(6, 1)", 0).is("shift(7, 1)", 0).outside("shift(?, 1)", 0, 7);
        run.planes(0, "0".repeat(17) + "2".repeat(15)).does("lay(7, 31, 7, 31, 4)").is("shift(7, -1)", 1);
        run.planes(7, "0".repeat(30) + "40").planes(2, "0".repeat(16) + "2".repeat(16));
    }

    private void shiftBy() {
        Run run = document.run("Promise 3", "by: -31 to 31").filled().does("lay(4, 0, 4, 0, 1)", "lay(4, 31, 4, 31, 4)");
        run.outside("shift(4, ?)", -31, 31).planes(4, "1" + "0".repeat(30) + "4");
        run.is("shift(4, 0)", 2).planes(4, "1" + "0".repeat(30) + "4");
        run.is("shift(4, 31)", 1).planes(4, "0".repeat(31) + "1").does("undo()");
        run.is("shift(4, 30)", 1).planes(4, "0".repeat(30) + "10").does("undo()");
        run.is("shift(4, -30)", 1).planes(4, "04" + "0".repeat(30)).does("undo()");
        run.is("shift(4, -31)", 1).planes(4, "4" + "0".repeat(31));
    }

    private void shiftAnswer() {
        Run run = document.run("Promise 3", "how many places of the row have a plane above 0").is("shift(5, 3)", 0);
        run.does("lay(5, 0, 5, 31, 1)").is("shift(5, 0)", 32).is("shift(5, 1)", 31).is("shift(5, -2)", 30);
        run.does("lay(5, 0, 5, 31, 4)").is("shift(5, -31)", 1).is("shift(5, -1)", 0);
    }

    private void swapAll() {
        Run run = document.run("Promise 4", "Exchanges two rows").winds("01234567");
        run.does("lay(0, 31, 0, 31, 4)", "lay(0, 0, 0, 0, 3)", "print(0)", "paint(0, 0, 6)", "paint(0, 31, 5)");
        // 31 with the plane 4 is bound to 27.
        run.does("lay(7, 15, 7, 15, 1)", "paint(7, 16, 2)").is("swap(0, 7)", 3);
        run.dots(7, "61234567" + "01234567".repeat(2) + "01234565").dots(0, "0".repeat(16) + "2" + "0".repeat(15));
        run.planes(7, "3" + "0".repeat(30) + "4").planes(0, "0".repeat(15) + "1" + "0".repeat(16));
        run.smudges(7, "0" + ".".repeat(30) + "3").smudges(0, ".".repeat(16) + "0" + ".".repeat(15));
    }

    private void swapRow() {
        Run run = document.run("Promise 4", "row: 0 to 7").filled();
        run.is("swap(0, 4)", 16).is("swap(1, 5)", 16).is("swap(6, 5)", 16).is("swap(7, 6)", 16).outside("swap(?, 3)", 0, 7);
        run.is("at(4, 5, 7)", 5).is("at(6, 30, 7)", NONE).is("at(7, 30, 7)", 4);
    }

    private void swapOther() {
        Run run = document.run("Promise 4", "other: 0 to 7, another one").filled();
        run.is("swap(4, 0)", 16).is("swap(5, 1)", 16).is("swap(5, 6)", 16).is("swap(6, 7)", 16).outside("swap(3, ?)", 0, 7);
        for (int row = 0; row < 8; row++) {
            run.refused("swap(" + row + ", " + row + ")", INVALID);
        }
        run.refused("swap(8, 8)", INVALID).refused("swap(-1, -1)", INVALID).is("swap(3, 2)", 0).is("swap(3, 4)", 0);
    }

    private void swapAnswer() {
        Run run = document.run("Promise 4", "how many columns there are at which the planes of both");
        run.is("swap(0, 1)", 0).does("lay(0, 0, 0, 31, 4)").is("swap(0, 1)", 32).is("swap(0, 1)", 32);
        run.does("lay(1, 0, 1, 30, 4)").is("swap(0, 1)", 1).does("lay(1, 0, 1, 0, 1)").is("swap(1, 0)", 2);
    }

    private void turnRound() {
        Run run = document.run("Promise 5", "from the column 31 to the column 0").winds("01234567").does("print(0)");
        run.does("lay(0, 0, 0, 0, 1)", "lay(0, 15, 0, 15, 2)", "lay(0, 31, 0, 31, 4)");
        run.does("paint(0, 0, 5)", "paint(0, 16, 6)", "paint(0, 30, 1)", "turn(0)");
        run.planes(0, "4" + "0".repeat(15) + "2" + "0".repeat(14) + "1");
        run.dots(0, "71543210" + "76543216" + "76543210" + "76543215");
        run.smudges(0, ".6" + ".".repeat(13) + "0" + ".".repeat(15) + "0").does("turn(0)");
        run.dots(0, "51234567" + "01234567" + "61234567" + "01234517").is("row(0, 7)", 3);
    }

    private void turnRow() {
        Run run = document.run("Promise 5", "row: 0 to 7").filled();
        // Rows of 7 to 0 again and again have the plane 0 from 8 on.
        run.is("turn(6)", 24).is("turn(7)", 24).outside("turn(?)", 0, 7).dots(7, "76543210".repeat(4)).dots(5, "01234567".repeat(4));
        run.does("turn(0)", "turn(1)").is("at(0, 31, 1)", 0).is("at(0, 26, 7)", 5).is("at(1, 1, 7)", 4);
    }

    private void turnAnswer() {
        Run run = document.run("Promise 5", "how many places of the row are seen right then");
        // All dots are alike, and the plane 4 is seen from 2 on.
        run.does("set(0, 6)").is("turn(0)", 0).does("lay(0, 0, 0, 31, 4)").is("turn(0)", 30);
        run.does("lay(0, 31, 0, 31, 0)").is("turn(0)", 30).is("turn(0)", 29);
        run.does("lay(0, 0, 0, 31, 0)", "lay(0, 29, 0, 29, 4)").is("turn(0)", 1).does("turn(0)", "lay(0, 29, 0, 31, 0)");
        run.does("lay(0, 30, 0, 30, 4)").is("turn(0)", 0).is("turn(0)", 1);
    }
}
