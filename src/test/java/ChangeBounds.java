/** The bounds that the document names in "Changes and errors". */
final class ChangeBounds {
    private static final int INVALID = StripDepths.INVALID_ARGUMENT;
    private static final int CANNOT = StripDepths.NOT_POSSIBLE;
    private static final int FULL = StripDepths.LIMIT_REACHED;
    private static final int NONE = StripDepths.NOT_FOUND;

    private final Document document;
    private final Due due;

    ChangeBounds(Document document, Due due) {
        this.document = document;
        this.due = due;
    }

    void hold() {
        changes();
        noChanges();
        states();
        changesOfNothing();
        recorded();
        severalErrors();
        errorsChangeNothing();
        errorsOfFullAndEmpty();
        constants();
        settingNumbers();
        looksChangeNothing();
    }

    private void changes() {
        Run run = document.run("Changes and errors", "The changes are the calls of lay");
        String[] calls = {"lay(0, 3, 7, 20, 1)", "shift(0, 5)", "swap(0, 4)", "turn(0)", "print(3)", "printAll()",
            "paint(0, 9, 6)", "wipe(0)", "set(5, 11)", "lot(5)"};
        for (String call : calls) {
            run.anew().is("count(12)", 0).does(call).is("count(12)", 1).does(call).is("count(12)", 2).is("undo()", 1);
        }
        Run next = run.anew().types("0,0:1").is("count(12)", 0).is("draw()", 1).is("count(12)", 1);
        next.types("01").is("wind()", 2).is("count(12)", 2).is("unwind()", 2).is("count(12)", 3).is("undo()", 2);
        run.anew().is("save()", 0).is("count(12)", 0).is("restore()", 0).is("count(12)", 1).is("undo()", 0);
    }

    private void noChanges() {
        Run run = document.run("Changes and errors", "The changes are the calls of lay").does("lot(2)", "lot(3)");
        run.does("append(48)").is("count(12)", 2).is("fault(1)", NONE).is("count(12)", 2).does("clear()");
        run.is("count(12)", 2).does("save()").is("count(12)", 2).is("undo()", 1).is("count(12)", 1).is("count(9)", 2);
        // Nor are those that return an error.
        run.refused("lot(10000)", INVALID).refused("wind()", CANNOT).refused("draw()", CANNOT).refused("unwind()", CANNOT);
        run.anew().does("lot(2)").refused("restore()", CANNOT).is("count(12)", 1);
    }

    private void states() {
        Run run = document.run("Changes and errors", "A history of at most 4 states is kept");
        run.is("count(12)", 0).does("lot(10)").is("count(12)", 1).does("lot(20)", "lot(30)").is("count(12)", 3);
        undone(run, 20, 10, 1);
        run = run.anew().does("lot(10)", "lot(20)", "lot(30)", "lot(40)").is("count(12)", 4);
        undone(run, 30, 20, 10, 1);
        run = run.anew().does("lot(10)", "lot(20)", "lot(30)", "lot(40)", "lot(50)").is("count(12)", 4);
        undone(run, 40, 30, 20, 10);
        run = run.anew().does("lot(10)", "lot(20)", "lot(30)", "lot(40)", "lot(50)", "lot(60)").is("count(12)", 4);
        undone(run, 50, 40, 30, 20);
        // Full again and again.
        for (int lot = 100; lot <= 200; lot++) {
            run.does("lot(" + lot + ")");
        }
        undone(run.is("count(12)", 4), 199, 198, 197, 196);
    }

    /** The lots that undo() brings back, until there is no state any more. */
    private static void undone(Run run, int... lots) {
        for (int i = 0; i < lots.length; i++) {
            run.is("undo()", lots.length - 1 - i).is("count(9)", lots[i]).is("count(12)", lots.length - 1 - i);
        }
        run.refused("undo()", CANNOT);
    }

    private void changesOfNothing() {
        Run run = document.run("Changes and errors", "also if nothing is different then");
        run.is("lay(0, 0, 7, 31, 0)", 0).is("count(12)", 1).is("shift(0, 0)", 0).is("count(12)", 2);
        run.is("wipe(0)", 0).is("count(12)", 3).is("lot(1)", 1).is("count(12)", 4).is("set(0, 8)", 8).is("count(12)", 4);
        run.is("undo()", 3).is("undo()", 2).is("undo()", 1).is("undo()", 0).refused("undo()", CANNOT);
        run.is("swap(0, 7)", 0).is("count(12)", 1).is("turn(3)", 0).is("count(12)", 2);
        run.types("0,0:0").is("draw()", 0).is("count(12)", 3).types("0").is("wind()", 1).is("count(12)", 4);
        run = run.anew().winds("0").is("print(0)", 0).is("count(12)", 2).is("printAll()", 0).is("count(12)", 3);
        run.does("save()").is("restore()", 0).is("count(12)", 4).is("undo()", 3).is("undo()", 2);
    }

    private void recorded() {
        Run run = document.run("Changes and errors", "records everything before it but the pad and the snapshot");
        run.winds("01234567").does("lay(0, 16, 0, 31, 2)", "printAll()", "paint(0, 5, 0)");
        // The pad and the snapshot stay as they are now, all else is as it was before the change.
        run.does("lot(9)").types("0,0:4").does("save()").is("undo()", 3).is("count(9)", 1).is("count(11)", 5);
        run.is("at(0, 5, 7)", 5).is("undo()", 2).is("at(0, 5, 7)", NONE).is("at(0, 5, 1)", 5).is("undo()", 1);
        run.dots(0, "0".repeat(32)).is("at(0, 31, 0)", 2).is("undo()", 0).is("at(0, 31, 0)", 0).is("count(10)", 8);
        run.is("fault(0)", NONE).does("restore()").is("count(9)", 9).is("at(0, 5, 7)", 5).is("draw()", 1);
        // And the strip that was.
        run = run.anew().winds("12").winds("345").does("unwind()").is("undo()", 2).is("count(10)", 3).does("print(0)");
        run.dots(0, "34534534".repeat(4)).is("undo()", 2).is("undo()", 1).is("count(10)", 2).does("print(0)");
        run.dots(0, "12".repeat(16));
    }

    private void severalErrors() {
        Run run = document.run("Changes and errors", "If several errors apply to a call");
        run.types("0".repeat(80)).refused("append(32)", INVALID).refused("append(127)", INVALID);
        run.refused("append(48)", FULL).refused("append(33)", FULL).refused("append(126)", FULL);
        // Blurred, free and without a smudge, but with an argument out of its range too.
        run = run.anew().refused("at(0, 0, 2)", NONE).refused("at(0, 0, 3)", NONE).refused("at(0, 0, 7)", NONE);
        run.refused("at(-1, 0, 2)", INVALID).refused("at(8, 0, 3)", INVALID).refused("at(0, -1, 7)", INVALID);
        run.refused("at(0, 32, 7)", INVALID).refused("at(0, 0, 8)", INVALID).refused("at(0, 0, -1)", INVALID);
        run.refused("ifPainted(0, 0, 0, 2)", NONE).refused("ifPainted(8, 0, 0, 2)", INVALID);
        run.refused("ifPainted(0, 32, 0, 2)", INVALID).refused("ifPainted(0, 0, 8, 2)", INVALID);
        run.refused("ifPainted(0, 0, 0, 3)", INVALID).refused("fault(2)", INVALID);
        run.types("0").is("fault(1)", NONE).refused("fault(2)", INVALID).refused("fault(-1)", INVALID);
    }

    private void errorsChangeNothing() {
        Run run = document.run("Changes and errors", "A call that returns an error changes nothing").filled();
        String[] wrong = {"lay(8, 0, 8, 0, 1)", "lay(1, 0, 0, 31, 1)", "lay(0, 1, 7, 0, 1)", "lay(0, 0, 7, 32, 1)",
            "lay(0, 0, 8, 31, 1)", "lay(0, 0, 7, 31, 5)", "shift(8, 1)", "shift(0, 32)", "shift(0, -32)", "swap(0, 0)",
            "swap(0, 8)", "swap(-1, 0)", "turn(8)", "turn(-1)", "print(8)", "print(-1)", "paint(0, 0, 8)",
            "paint(0, 32, 1)", "paint(8, 0, 1)", "paint(-1, 31, 1)", "wipe(8)", "wipe(-1)", "set(6, 8)", "set(-1, 8)",
            "set(0, 17)", "set(1, 1)", "set(3, 2)", "lot(-1)", "lot(10000)", "append(32)", "append(127)", "fault(2)",
            "at(0, 0, 8)", "fits(0, 0, 5)", "row(0, 11)", "echo(0, 25)", "echoAt(0, 23)", "faulty(8)", "plane(5, 0)",
            "count(19)", "away(5)", "clearness(8)", "ifPainted(0, 0, 8, 0)", "ifPrinted(0, 17)", "shortest(8)",
            "bestWindow(8)", "alike(0, 8)"};
        for (String call : wrong) {
            run.refused(call, INVALID);
        }
        // The pad, 0,0: , is no shape yet, and no strip.
        run.refused("draw()", CANNOT).refused("wind()", CANNOT).refused("at(0, 0, 2)", NONE).is("count(11)", 4);
        run.is("append(52)", 5).is("draw()", 1).is("at(0, 0, 0)", 4);
    }

    private void errorsOfFullAndEmpty() {
        Run run = document.run("Changes and errors", "A call that returns an error changes nothing");
        run.refused("unwind()", CANNOT).refused("undo()", CANNOT).refused("restore()", CANNOT);
        run.refused("draw()", CANNOT).refused("wind()", CANNOT).is("count(12)", 0).is("count(11)", 0);
        run.types("1".repeat(80)).refused("append(49)", FULL).refused("wind()", CANNOT).is("count(11)", 80);
        run = run.anew().types("1".repeat(25)).refused("wind()", CANNOT).is("count(11)", 25).is("count(10)", 0);
        run = run.anew().types("1".repeat(24)).refused("draw()", CANNOT).is("wind()", 24).refused("wind()", CANNOT);
        run.is("count(10)", 24).is("print(0)", 32);
    }

    private void constants() {
        document.run("Changes and errors", "INVALID_ARGUMENT = -1").is("at(-1, 0, 0)", -1).is("away(-1)", -1);
        document.run("Changes and errors", "NOT_POSSIBLE = -2").is("undo()", -2);
        Run run = document.run("Changes and errors", "LIMIT_REACHED = -3").types("x".repeat(80)).is("append(48)", -3);
        document.run("Changes and errors", "NOT_FOUND = -4").is("at(0, 0, 3)", -4);
        run.is("count(11)", 80);
        due.is("INVALID_ARGUMENT", StripDepths.INVALID_ARGUMENT, -1);
        due.is("NOT_POSSIBLE", StripDepths.NOT_POSSIBLE, -2);
        due.is("LIMIT_REACHED", StripDepths.LIMIT_REACHED, -3);
        due.is("NOT_FOUND", StripDepths.NOT_FOUND, -4);
    }

    private void settingNumbers() {
        Run run = document.run("Changes and errors", "Numbers of the settings");
        int[] numbers = {StripDepths.PERIOD, StripDepths.COLORS, StripDepths.WINDOW, StripDepths.CROSSED, StripDepths.GAP,
            StripDepths.DISTANCE};
        int[] first = {8, 4, 1, 0, 60, 120};
        int[] then = {16, 8, 3, 1, 99, 400};
        for (int i = 0; i < 6; i++) {
            due.is("the number of the setting " + i, numbers[i], i);
            run.is("set(" + numbers[i] + ", " + then[i] + ")", first[i]);
        }
        for (int i = 0; i < 6; i++) {
            run.is("count(" + (13 + i) + ")", then[i]);
        }
    }

    private void looksChangeNothing() {
        // Rows 4 to 7 are alike, 2 and 3 too; row 0 has a smudge at 5, and row 1 one at 30.
        Run run = document.run("Changes and errors", "at, fits, row, echo").filled();
        run.leaves("at(0, 5, 7)", 5).leaves("at(0, 0, 2)", NONE).leaves("fits(0, 20, 2)", 1).leaves("row(0, 7)", 1);
        run.leaves("echo(0, 24)", 0).leaves("echoAt(4, 0)", 8).leaves("faulty(7)", 7).leaves("plane(2, 0)", 64);
        run.leaves("pictures()", 4).leaves("count(8)", 2).leaves("away(0)", 960f / 25f).leaves("clearness(4)", 0.75);
        Run would = document.run("Changes and errors", "ifPainted, ifPrinted, shortest").filled();
        would.leaves("ifPainted(4, 31, 0, 0)", 1).leaves("ifPainted(4, 31, 0, 1)", 23).leaves("ifPainted(4, 31, 0, 2)", 0);
        would.leaves("ifPrinted(4, 16)", 16).leaves("shortest(4)", 6).leaves("bestWindow(4)", 0).leaves("alike(4, 5)", 32);
    }
}
