/** The bounds that the document names in the promises 12 to 17. */
final class TextCallBounds {
    private static final int INVALID = StripDepths.INVALID_ARGUMENT;
    private static final int CANNOT = StripDepths.NOT_POSSIBLE;
    private static final int FULL = StripDepths.LIMIT_REACHED;
    private static final int NONE = StripDepths.NOT_FOUND;

    private final Document document;

    TextCallBounds(Document document) {
        this.document = document;
    }

    void hold() {
        appendCode();
        appendAnswer();
        clearAll();
        clearAnswer();
        faultWay();
        faultAnswer();
        drawInOrder();
        drawAnswer();
        drawNot();
        windPad();
        windAnswer();
        unwindStrip();
        unwindAnswer();
    }

    private void appendCode() {
        Run run = document.run("Promise 12", "code: the character code, 33 to 126").filled();
        run.is("append(33)", 5).is("append(34)", 6).is("append(125)", 7).is("append(126)", 8).outside("append(?)", 33, 126);
        run.refused("append(0)", INVALID).refused("append(304)", INVALID).refused("append(65584)", INVALID);
        run.is("count(11)", 8);
    }

    private void appendAnswer() {
        Run run = document.run("Promise 12", "LIMIT_REACHED if it has 80 characters").is("append(48)", 1).is("append(48)", 2);
        run.types("0".repeat(76)).is("append(48)", 79).is("append(48)", 80).refused("append(48)", FULL);
        run.refused("append(48)", FULL).is("count(11)", 80).refused("append(127)", INVALID).refused("append(32)", INVALID);
        run.is("clear()", 80).is("append(55)", 1).is("wind()", 1).is("count(11)", 0);
    }

    private void clearAll() {
        Run run = document.run("Promise 13", "Empties the pad").filled().is("clear()", 4).is("count(11)", 0).is("fault(0)", 0);
        // What was written before does not come back.
        run.is("append(49)", 1).is("fault(1)", NONE).is("wind()", 1).is("count(10)", 1).is("append(48)", 1).is("fault(0)", 1);
    }

    private void clearAnswer() {
        Run run = document.run("Promise 13", "Returns the length that it had").is("clear()", 0).is("clear()", 0);
        run.types("x").is("clear()", 1).is("clear()", 0).types("x".repeat(79)).is("clear()", 79);
        run.types("x".repeat(80)).is("clear()", 80).is("clear()", 0).is("count(12)", 0);
    }

    private void faultWay() {
        Run run = document.run("Promise 14", "way: 0 if it is read as shapes").filled().leaves("fault(0)", 4);
        run.leaves("fault(1)", 1).outside("fault(?)", 0, 1);
    }

    private void faultAnswer() {
        Run run = document.run("Promise 14", "NOT_FOUND if it has none").leaves("fault(0)", 0).leaves("fault(1)", 0);
        run.types("0").leaves("fault(0)", 1).leaves("fault(1)", NONE).types(",").leaves("fault(0)", 2).leaves("fault(1)", 1);
        run.types("0:0").leaves("fault(0)", NONE).types(";").leaves("fault(0)", 6).types(";").leaves("fault(0)", 6);
        run.anew().types("0".repeat(80)).leaves("fault(0)", 1).leaves("fault(1)", 24);
    }

    private void drawInOrder() {
        Run run = document.run("Promise 15", "one shape after the other, and empties the pad");
        run.types("0-7,0-31:1;0-6,0-30:2;0,0:3").is("draw()", 256).is("count(11)", 0).is("at(0, 0, 0)", 3);
        run.is("plane(2, 0)", 216).is("plane(1, 0)", 39).is("at(7, 31, 0)", 1).refused("draw()", CANNOT);
        run.types("0,0:3;0-6,0-30:2;0-7,0-31:1").is("draw()", 217).is("plane(1, 0)", 256).is("append(48)", 1);
        // As many shapes as the pad has room for: thirteen with five characters each.
        run = run.anew().types("0,0:1;0,1:1;0,2:1;0,3:1;0,4:1;0,5:1;0,6:1;0,7:1;0,8:1;0,9:1;1,0:1;1,1:1;1,2:1");
        run.is("count(11)", 77).is("draw()", 13).is("count(12)", 1);
    }

    private void drawAnswer() {
        Run run = document.run("Promise 15", "Returns how many places have another plane, behind all shapes");
        run.types("0-7,0-31:4;0-7,0-31:0").is("draw()", 0).types("0,0:0").is("draw()", 0);
        run.types("7,31:4;7,31:1").is("draw()", 1).types("7,31:4;7,31:1").is("draw()", 0);
        run.types("0-7,0-31:3").is("draw()", 256).types("0-7,0-31:3;3,3:0").is("draw()", 1).is("count(12)", 4);
    }

    private void drawNot() {
        Run run = document.run("Promise 15", "NOT_POSSIBLE if the pad has a fault").filled().refused("draw()", CANNOT);
        run.types("5").refused("draw()", CANNOT).is("count(11)", 5).is("fault(0)", 4);
        run.is("clear()", 5).refused("draw()", CANNOT).types("0,0:4;").refused("draw()", CANNOT).types("1,1");
        run.refused("draw()", CANNOT).types(":4").is("draw()", 2).is("at(0, 0, 0)", 4).is("at(1, 1, 0)", 4);
        run.types("0123").refused("draw()", CANNOT).is("fault(1)", NONE).is("wind()", 4);
    }

    private void windPad() {
        Run run = document.run("Promise 16", "Makes the pad the strip, and empties it").types("7").is("wind()", 1);
        run.is("count(10)", 1).is("count(11)", 0).refused("wind()", CANNOT).is("print(0)", 32).dots(0, "7".repeat(32));
        // A strip in place of a longer one, and of a shorter one.
        run.winds("01234567".repeat(3)).is("count(10)", 24).winds("65").is("count(10)", 2).does("print(1)");
        run.dots(1, "65".repeat(16)).winds("654").does("print(2)").dots(2, "65465465".repeat(4));
        // A change of the pad is none of the strip.
        run.types("111").does("clear()", "print(3)").dots(3, "65465465".repeat(4));
    }

    private void windAnswer() {
        Run run = document.run("Promise 16", "Returns how many dots the strip has").types("0").is("wind()", 1);
        run.types("77").is("wind()", 2).types("01234567012345670123456").is("wind()", 23);
        run.types("012345670123456701234567").is("wind()", 24).is("count(10)", 24);
        run.types("0123456701234567012345670").refused("wind()", CANNOT).is("count(11)", 25).is("count(10)", 24);
        run.is("clear()", 25).refused("wind()", CANNOT).types("8").refused("wind()", CANNOT).is("clear()", 1);
        run.types("0,0:0").refused("wind()", CANNOT).is("draw()", 0).is("count(10)", 24);
    }

    private void unwindStrip() {
        Run run = document.run("Promise 17", "Takes the strip away").winds("5").does("print(0)", "unwind()").is("count(10)", 0);
        run.dots(0, "5".repeat(32)).does("print(0)").dots(0, "0321".repeat(8)).is("count(9)", 9945);
    }

    private void unwindAnswer() {
        Run run = document.run("Promise 17", "NOT_POSSIBLE if there is none").refused("unwind()", CANNOT);
        run.winds("0").is("unwind()", 1).refused("unwind()", CANNOT).winds("01").is("unwind()", 2);
        run.winds("01234567".repeat(3)).is("unwind()", 24).refused("unwind()", CANNOT).is("undo()", 3).is("unwind()", 24);
        // A pad that could be wound is no strip.
        run.types("123").refused("unwind()", CANNOT).is("count(11)", 3);
    }
}
