import java.io.IOException;

/** Each sentence of the document that names a boundary has a test of its own, and holds. */
public final class SentencesTest {
    /** Sentences that name no boundary, by section and some words: what their call is for is held with the others. */
    private static final String[][] WITHOUT_BOUNDARY = {
        {"What it is", "Hidden depth pictures"},
        {"Terms", "All numbers are whole numbers"},
        {"Seeing", "Let d be PERIOD less p"},
        {"Settings", "In parentheses: range; first value"},
        {"Changes and errors", "lay, shift, swap, turn the interface says"},
        {"Changes and errors", "print, printAll, paint, wipe, set, lot the interface says"},
        {"Changes and errors", "append, clear, fault, draw, wind, unwind the interface says"},
        {"Changes and errors", "undo, save, restore the interface says"},
        {"Promise 2", "Lays a plane on all places"},
        {"Promise 6", "Prints a row"},
        {"Promise 8", "Paints a place by hand"},
        {"Promise 9", "Wipes a row"},
        {"Promise 10", "Changes a setting"},
        {"Promise 11", "Changes the lot"},
        {"Promise 12", "Appends a character"},
        {"Promise 14", "Returns the fault of the pad"},
        {"Promise 18", "Returns a property of a place"},
        {"Promise 19", "Tells whether a plane fits"},
        {"Promise 20", "Returns a number of a row"},
        {"Promise 21", "Returns an echo of a row"},
        {"Promise 22", "by its place in the order of the echoes"},
        {"Promise 24", "Returns a number of a plane"},
        {"Promise 25", "Returns how many different pictures"},
        {"Promise 26", "Returns a number"},
        {"Promise 28", "how much of a row is seen right"},
        {"Promise 29", "what a place painted by hand would show"},
        {"Promise 31", "Finds the shortest period"},
        {"Promise 32", "Finds the best window"},
        {"Promise 33", "Tells how alike two rows are"},
        {"Not promised", "How the state is held"},
        {"Not promised", "from several threads at once"}
    };

    public static void main(String[] args) throws IOException {
        Due due = new Due("SentencesTest");
        Document document = new Document(due);
        new SheetBounds(document).hold();
        new SeeingBounds(document).hold();
        new TextBounds(document, due).hold();
        new ChangeBounds(document, due).hold();
        new PlaneCallBounds(document).hold();
        new DotCallBounds(document).hold();
        new TextCallBounds(document).hold();
        new LookCallBounds(document).hold();
        new WouldBeCallBounds(document).hold();
        new HistoryCallBounds(document).hold();
        document.isHeldBut(WITHOUT_BOUNDARY);
        due.end();
    }
}
