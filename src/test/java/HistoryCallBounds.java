/** The bounds that the document names in the promises 34 to 36. */
final class HistoryCallBounds {
    private static final int CANNOT = StripDepths.NOT_POSSIBLE;
    private static final int NONE = StripDepths.NOT_FOUND;
    private static final String EIGHT = "01234567";

    private final Document document;

    HistoryCallBounds(Document document) {
        this.document = document;
    }

    void hold() {
        undoLatest();
        undoOfEach();
        undoAnswer();
        saveAll();
        saveAnswer();
        restoreStays();
        restoreAnswer();
        restoreAsChange();
    }

    private void undoLatest() {
        Run run = document.run("Promise 34", "Undoes the latest change").winds(EIGHT).does("print(0)", "paint(0, 31, 0)");
        run.types("12").does("save()").is("wipe(0)", 1).is("undo()", 3).is("at(0, 31, 7)", 7).is("at(0, 31, 1)", 0);
        run.is("count(11)", 2).is("undo()", 2).is("at(0, 31, 7)", NONE).is("at(0, 31, 1)", 7).is("undo()", 1);
        run.dots(0, "0".repeat(32)).is("undo()", 0).is("count(10)", 0).is("count(11)", 2).is("fault(1)", NONE);
        // The snapshot is as it was saved.
        run.does("restore()").is("at(0, 31, 7)", 7).is("count(10)", 8).is("undo()", 0).is("count(10)", 0).is("wind()", 2);
        // A print brings the lot back too, and all rows.
        run = run.anew().does("printAll()").is("undo()", 0).is("count(9)", 1).dots(7, "0".repeat(32)).dots(0, "0".repeat(32));
        run.does("set(5, 400)", "set(0, 16)").is("undo()", 1).is("count(13)", 8).is("count(18)", 400).is("undo()", 0);
        run.is("count(18)", 120);
    }

    private void undoOfEach() {
        Run run = document.run("Promise 34", "Undoes the latest change").winds(EIGHT);
        run.does("lay(0, 16, 0, 31, 2)", "paint(0, 2, 7)", "save()");
        String[] changes = {"lay(0, 3, 7, 20, 1)", "shift(0, 5)", "swap(0, 4)", "turn(0)", "print(3)", "printAll()",
            "paint(0, 9, 6)", "wipe(0)", "set(5, 11)", "lot(5)", "unwind()", "restore()"};
        for (String change : changes) {
            run.takesBack(change, "undo()");
        }
        // 48, 44, 48, 58 and 52 are 0,0:4 and 54 is 6: the pad is empty again, as it was.
        run.takesBack("append(48)", "append(44)", "append(48)", "append(58)", "append(52)", "draw()", "undo()");
        run.takesBack("append(54)", "wind()", "undo()");
    }

    private void undoAnswer() {
        Run run = document.run("Promise 34", "NOT_POSSIBLE if it has none").refused("undo()", CANNOT).does("lot(2)");
        run.is("undo()", 0).refused("undo()", CANNOT).is("count(9)", 1).does("lot(2)", "lot(3)").is("undo()", 1);
        run.does("lot(4)", "lot(5)", "lot(6)").is("count(12)", 4).is("undo()", 3).does("lot(7)", "lot(8)", "lot(9)");
        // 2, 4 and 5 were, and 7 and 8; the oldest states are dropped.
        run.is("count(12)", 4).is("undo()", 3).is("count(9)", 8).is("undo()", 2).is("count(9)", 7).is("undo()", 1);
        run.is("count(9)", 5).is("undo()", 0).is("count(9)", 4).refused("undo()", CANNOT).is("count(9)", 4);
    }

    private void saveAll() {
        Run run = document.run("Promise 35", "Takes a snapshot of everything but the pad and the history").filled();
        run.does("save()").does("lay(0, 0, 7, 31, 1)", "unwind()", "set(4, 50)", "set(2, 3)", "lot(1)", "printAll()", "wipe(0)");
        run.types("4").does("restore()").is("count(0)", 64).is("count(10)", 8).is("count(17)", 33).is("count(15)", 0);
        run.is("count(9)", 77).is("count(8)", 2).is("at(0, 5, 7)", 5).is("at(1, 30, 1)", 1).is("count(11)", 5);
        // In place of the one that was; the history is no part of it.
        run.does("lot(88)", "save()").is("count(12)", 4).does("lot(99)", "restore()").is("count(9)", 88).is("count(12)", 4);
        run.is("undo()", 3).is("count(9)", 99).is("undo()", 2).is("count(9)", 88).is("undo()", 1).is("count(9)", 77);
    }

    private void saveAnswer() {
        Run run = document.run("Promise 35", "Returns how many places are seen right").is("save()", 0).is("save()", 0);
        run.does("lay(7, 31, 7, 31, 4)").is("save()", 1).does("set(0, 6)", "lay(0, 0, 7, 31, 4)").is("save()", 240);
        run.does("lay(0, 0, 0, 31, 0)").is("save()", 210).is("count(5)", 210).is("count(12)", 4);
    }

    private void restoreStays() {
        Run run = document.run("Promise 36", "Restores the snapshot, which stays").does("lot(5)", "save()", "lot(6)");
        for (int time = 0; time < 6; time++) {
            run.is("restore()", 0).is("count(9)", 5).does("lot(7)", "paint(0, 0, 7)");
        }
        run.is("undo()", 3).is("undo()", 2).is("undo()", 1).is("count(9)", 7).is("restore()", 0).is("count(9)", 5);
        run.is("at(0, 0, 7)", NONE).is("at(0, 0, 1)", 0);
        // What is changed behind a restore is not changed in the snapshot.
        run.does("paint(3, 3, 3)", "lay(3, 3, 3, 3, 3)", "set(0, 9)").winds("77").does("restore()");
        run.is("at(3, 3, 1)", 0).is("at(3, 3, 0)", 0).is("at(3, 3, 7)", NONE).is("count(13)", 8).is("count(10)", 0);
    }

    private void restoreAnswer() {
        Run run = document.run("Promise 36", "NOT_POSSIBLE if there is none").refused("restore()", CANNOT).does("lot(2)");
        run.refused("restore()", CANNOT).is("undo()", 0).refused("restore()", CANNOT).does("set(0, 6)", "lay(0, 0, 7, 31, 4)");
        run.refused("restore()", CANNOT).does("save()", "lay(0, 0, 7, 31, 0)").is("count(5)", 0).is("restore()", 240);
        run.does("lay(0, 0, 7, 31, 0)", "save()").is("restore()", 0).is("count(0)", 0);
        run.does("lay(7, 31, 7, 31, 4)", "save()", "lay(0, 0, 7, 31, 0)").is("restore()", 1);
    }

    private void restoreAsChange() {
        Run run = document.run("Promise 36", "NOT_POSSIBLE if there is none").filled().does("restore()").is("count(12)", 4);
        // The state before it holds what was changed behind the save.
        run.is("count(9)", 1).is("at(1, 30, 7)", NONE).is("count(11)", 4).is("undo()", 3).is("count(9)", 77);
        run.is("at(1, 30, 7)", 4).is("count(17)", 33).is("count(15)", 0).is("undo()", 2).is("count(15)", 1);
        run.is("count(9)", 77).is("undo()", 1).is("count(9)", 1);
    }
}
