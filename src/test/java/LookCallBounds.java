/** The bounds that the document names in the promises 18 to 28. */
final class LookCallBounds {
    private static final int INVALID = StripDepths.INVALID_ARGUMENT;
    private static final int NONE = StripDepths.NOT_FOUND;

    private final Document document;

    LookCallBounds(Document document) {
        this.document = document;
    }

    void hold() {
        atPlaces();
        atWhat();
        atNothing();
        fitsArguments();
        fitsAnswer();
        rowArguments();
        rowOfPlanes();
        rowOfDots();
        rowOfEyes();
        rowOfChanges();
        echoArguments();
        echoAtArguments();
        faultyOrder();
        faultyPlace();
        planeArguments();
        planeNumbers();
        pictures();
        countArguments();
        countPlaces();
        countOthers();
        awayPlane();
        clearness();
    }

    private void atPlaces() {
        Run run = document.run("Promise 18", "row: 0 to 7").filled().outside("at(?, 0, 1)", 0, 7);
        run.leaves("at(0, 31, 1)", 5).leaves("at(1, 31, 1)", 5).leaves("at(6, 31, 1)", 7).leaves("at(7, 31, 1)", 7);
        run = document.run("Promise 18", "column: 0 to 31").filled().outside("at(4, ?, 1)", 0, 31);
        run.leaves("at(4, 0, 1)", 0).leaves("at(4, 1, 1)", 1).leaves("at(4, 30, 1)", 6).leaves("at(4, 31, 1)", 7);
    }

    private void atWhat() {
        Run run = document.run("Promise 18", "what: 0: its plane").filled().outside("at(0, 20, ?)", 0, 7);
        // 20 has the plane 2 and is bound to 14, that to 6; 26 is bound to 20. 5 has a smudge.
        int[] due = {2, 6, 2, 14, 1, 6, 4, NONE};
        for (int what = 0; what <= 7; what++) {
            run.leaves("at(0, 20, " + what + ")", due[what]);
        }
        run.leaves("at(0, 5, 7)", 5).leaves("at(0, 5, 1)", 0);
        // What is beyond is refused at a place of any kind.
        run.refused("at(0, 5, 8)", INVALID).refused("at(0, 0, 8)", INVALID).refused("at(7, 31, -1)", INVALID);
    }

    private void atNothing() {
        Run run = document.run("Promise 18", "Returns the number; INVALID_ARGUMENT").winds("01234567").does("print(0)");
        // Blurred up to 7, free up to 7, none is bound to what is behind 23; 7 is the last free place.
        run.is("at(0, 7, 2)", NONE).is("at(0, 8, 2)", 0).is("at(0, 7, 3)", NONE).is("at(0, 8, 3)", 0);
        run.is("at(0, 23, 4)", 1).is("at(0, 24, 4)", 0).is("at(0, 31, 5)", 7).is("at(0, 7, 5)", 7).is("at(0, 7, 6)", 4);
        run.is("at(0, 31, 6)", 4).is("at(0, 31, 7)", NONE).does("paint(0, 31, 7)").is("at(0, 31, 7)", 7);
        // A smudge that remembers 0, and a plane 0 that is seen, are not none.
        run.does("paint(0, 0, 0)").is("at(0, 0, 7)", 0).is("at(0, 9, 2)", 0).is("at(0, 0, 0)", 0);
    }

    private void fitsArguments() {
        Run run = document.run("Promise 19", "row: 0 to 7").filled().outside("fits(?, 8, 0)", 0, 7);
        run.leaves("fits(0, 8, 0)", 1).leaves("fits(1, 30, 2)", 0).leaves("fits(6, 8, 0)", 1).leaves("fits(7, 30, 0)", 1);
        run = document.run("Promise 19", "column: 0 to 31").filled().outside("fits(4, ?, 0)", 0, 31);
        run.leaves("fits(4, 0, 0)", 0).leaves("fits(4, 1, 4)", 0).leaves("fits(4, 30, 0)", 1).leaves("fits(4, 31, 0)", 1);
        run = document.run("Promise 19", "plane: 0 to 4").filled().outside("fits(4, 31, ?)", 0, 4);
        run.leaves("fits(4, 31, 0)", 1).leaves("fits(4, 31, 1)", 0).leaves("fits(0, 31, 2)", 1).leaves("fits(4, 31, 4)", 0);
        run.does("set(0, 12)").leaves("fits(4, 31, 4)", 1).leaves("fits(4, 31, 3)", 0);
    }

    private void fitsAnswer() {
        Run run = document.run("Promise 19", "Returns 1 if it does, otherwise 0").winds("01234567").does("print(0)");
        run.is("fits(0, 7, 0)", 0).is("fits(0, 8, 0)", 1).is("fits(0, 31, 0)", 1).is("fits(0, 31, 1)", 0);
        // At 30 the window of 1 ends with 31.
        run.does("paint(0, 31, 0)").is("fits(0, 31, 0)", 0).is("fits(0, 30, 0)", 0).is("fits(0, 29, 0)", 1);
    }

    private void rowArguments() {
        Run run = document.run("Promise 20", "row: 0 to 7").filled().outside("row(?, 7)", 0, 7);
        run.leaves("row(0, 7)", 1).leaves("row(1, 7)", 1).leaves("row(6, 7)", 0).leaves("row(7, 7)", 0);
        run = document.run("Promise 20", "what: how many places are 0: free").filled().outside("row(4, ?)", 0, 10);
        int[] due = {8, 0, 8, 0, 24, 0, 8, 0, 4, 8, 0};
        for (int what = 0; what <= 10; what++) {
            run.leaves("row(4, " + what + ")", due[what]);
        }
    }

    private void rowOfPlanes() {
        Run run = document.run("Promise 20", "Returns the number");
        // The greatest and the least reach: free, covered, loose, and the longest chain.
        rowIs(run.does("set(0, 16)"), 16, 0, 16, 2);
        rowIs(run.does("set(0, 15)"), 15, 0, 15, 3);
        run.does("lay(0, 0, 0, 31, 4)");
        rowIs(run.does("set(0, 6)"), 2, 0, 2, 16);
        rowIs(run.does("set(0, 7)"), 3, 0, 3, 11);
        // 3 is bound to 0, as 2 is; then 4 too.
        run.does("set(0, 6)", "lay(0, 3, 0, 3, 3)");
        rowIs(run, 2, 1, 3, 31);
        run.does("lay(0, 4, 0, 4, 2)");
        rowIs(run, 2, 1, 4, 31);
        run.does("lay(0, 5, 0, 5, 3)");
        rowIs(run, 2, 1, 4, 31);
        // 6 and 7 are bound to 4.
        run.does("lay(0, 7, 0, 7, 3)");
        rowIs(run, 2, 2, 5, 31);
    }

    private void rowIs(Run run, int free, int covered, int loose, int longest) {
        run.is("row(0, 0)", free).is("row(0, 1)", covered).is("row(0, 2)", loose).is("row(0, 8)", longest);
    }

    private void rowOfDots() {
        Run run = document.run("Promise 20", "Returns the number").is("row(0, 9)", 1).is("row(0, 3)", 0).is("row(0, 7)", 0);
        run.does("paint(0, 31, 7)").is("row(0, 9)", 2).is("row(0, 3)", 1).is("row(0, 7)", 1);
        for (int column = 0; column < 32; column++) {
            run.does("paint(0, " + column + ", " + column / 2 % 2 + ")");
        }
        run.is("row(0, 7)", 32).does("set(0, 6)", "lay(0, 0, 0, 31, 4)").is("row(0, 3)", 30).is("row(0, 9)", 2);
        run = run.anew().winds("0123456").does("print(0)").is("row(0, 9)", 7).winds("01234567").does("print(0)");
        run.is("row(0, 9)", 8).does("paint(0, 7, 0)", "paint(0, 15, 0)", "paint(0, 23, 0)").is("row(0, 9)", 8);
        run.does("paint(0, 31, 0)").is("row(0, 9)", 7);
        // A row without 0, and a dot that is at the column 0 alone.
        run = run.anew().winds("7").does("print(0)").is("row(0, 9)", 1).does("paint(0, 0, 0)").is("row(0, 9)", 2);
    }

    private void rowOfEyes() {
        Run run = document.run("Promise 20", "Returns the number").does("set(0, 6)");
        // All dots are alike: the plane 4 is seen from 2 on.
        run.is("row(0, 4)", 0).is("row(0, 5)", 30).is("row(0, 6)", 2).does("lay(0, 2, 0, 2, 4)");
        run.is("row(0, 4)", 1).is("row(0, 5)", 29).does("lay(0, 1, 0, 31, 4)").is("row(0, 4)", 30).is("row(0, 5)", 0);
        run.does("lay(0, 31, 0, 31, 3)").is("row(0, 4)", 29).is("row(0, 5)", 1).is("row(0, 6)", 2);
        run = run.anew().winds("01234567").does("print(0)", "set(0, 15)").is("row(0, 4)", 0).is("row(0, 5)", 0);
        run.is("row(0, 6)", 32).does("set(0, 16)", "set(2, 0)").is("row(0, 6)", 16).is("row(0, 4)", 16).is("row(0, 5)", 0);
    }

    private void rowOfChanges() {
        Run run = document.run("Promise 20", "Returns the number").is("row(0, 10)", 0);
        // None is seen, or just one plane: no change, not even from the plane that eyes have at the beginning.
        run.winds("01234567").does("print(0)", "set(0, 15)").is("row(0, 10)", 0).does("set(0, 9)").is("row(0, 10)", 0);
        run.is("at(0, 31, 2)", 1);
        // From 8 to 15 plane 0, from 16 on plane 2; with a window 15 and 16 are blurred.
        Run next = run.anew().winds("01234567").does("lay(0, 16, 0, 31, 2)", "print(0)", "set(2, 0)").is("row(0, 10)", 1);
        next.is("row(0, 6)", 8).does("set(2, 1)").is("row(0, 10)", 1).is("row(0, 6)", 10);
        // Blurred places between places of the same plane are no change.
        next = run.anew().winds("01234567").does("print(0)", "paint(0, 16, 1)").is("row(0, 6)", 14).is("row(0, 10)", 0);
        // There and back again.
        next = run.anew().winds("01234567").does("lay(0, 16, 0, 23, 2)", "print(0)", "set(2, 0)");
        next.seen(0, "........000000002222222200000000").is("row(0, 10)", 2);
    }

    private void echoArguments() {
        Run run = document.run("Promise 21", "row: 0 to 7").filled().outside("echo(?, 8)", 0, 7);
        // Row 0 without its smudge has 8, from 8 to 15; row 1 has its smudge behind them.
        run.leaves("echo(0, 8)", 7).leaves("echo(1, 8)", 8).leaves("echo(6, 8)", 24).leaves("echo(7, 8)", 24);
        run = document.run("Promise 21", "reach: 2 to 24").filled().outside("echo(4, ?)", 2, 24);
        run.leaves("echo(4, 2)", 0).leaves("echo(4, 3)", 0).leaves("echo(4, 23)", 0).leaves("echo(4, 24)", 8);
        run = document.run("Promise 21", "Returns the echo of the reach").is("echo(0, 2)", 30).is("echo(0, 24)", 8);
        run.winds("01234567").does("print(0)").is("echo(0, 24)", 8).is("echo(0, 23)", 0).is("echo(0, 8)", 24);
        run.is("echo(0, 16)", 16).is("echo(7, 2)", 30);
    }

    private void echoAtArguments() {
        Run run = document.run("Promise 22", "row: 0 to 7").filled().outside("echoAt(?, 0)", 0, 7);
        run.leaves("echoAt(0, 0)", 6).leaves("echoAt(1, 0)", 6).leaves("echoAt(6, 0)", 8).leaves("echoAt(7, 0)", 8);
        run = document.run("Promise 22", "place: 0 to 22").filled().outside("echoAt(4, ?)", 0, 22);
        run.leaves("echoAt(4, 0)", 8).leaves("echoAt(4, 1)", 16).leaves("echoAt(4, 21)", 22).leaves("echoAt(4, 22)", 23);
        run = document.run("Promise 22", "Returns the reach; INVALID_ARGUMENT");
        run.is("echoAt(0, 0)", 2).is("echoAt(0, 1)", 3).is("echoAt(0, 21)", 23).is("echoAt(0, 22)", 24);
    }

    private void faultyOrder() {
        Run run = document.run("Promise 23", "the one with the most places that are blurred or seen wrong first");
        run.winds("01234567").does("printAll()");
        order(run, 0, 1, 2, 3, 4, 5, 6, 7);
        // Rows have 8 blurred places. Two wrong ones for row 5; two blurred ones for row 6; two wrong ones for row 7.
        order(run.does("lay(5, 20, 5, 21, 1)"), 5, 0, 1, 2, 3, 4, 6, 7);
        order(run.does("paint(6, 31, 0)").is("row(6, 6)", 10), 6, 5, 0, 1, 2, 3, 4, 7);
        order(run.does("lay(7, 20, 7, 21, 1)"), 6, 5, 7, 0, 1, 2, 3, 4);
        // With three wrong ones row 7 comes ahead of more blurred ones.
        order(run.does("lay(7, 22, 7, 22, 1)"), 7, 6, 5, 0, 1, 2, 3, 4);
        order(run.does("lay(0, 8, 0, 31, 1)").is("row(0, 5)", 24), 0, 7, 6, 5, 1, 2, 3, 4);
    }

    private void order(Run run, int... rows) {
        for (int place = 0; place < rows.length; place++) {
            run.is("faulty(" + place + ")", rows[place]);
        }
    }

    private void faultyPlace() {
        Run run = document.run("Promise 23", "place: 0 to 7").filled().outside("faulty(?)", 0, 7);
        // Row 0 has a blurred place more, from its smudge at 5 on, row 1 too.
        run.leaves("faulty(6)", 6).leaves("faulty(7)", 7);
        run = document.run("Promise 23", "Returns the row").is("faulty(0)", 0).is("faulty(1)", 1).is("faulty(6)", 6);
        run.is("faulty(7)", 7).does("lay(0, 4, 6, 31, 4)").is("faulty(0)", 7).is("faulty(1)", 0).is("faulty(7)", 6);
    }

    private void planeArguments() {
        Run run = document.run("Promise 24", "plane: 0 to 4").filled().outside("plane(?, 0)", 0, 4);
        run.leaves("plane(0, 0)", 192).leaves("plane(1, 0)", 0).leaves("plane(3, 0)", 0).leaves("plane(4, 0)", 0);
        run = document.run("Promise 24", "what: at how many places it 0: is laid").filled().outside("plane(2, ?)", 0, 3);
        // Row 1 is blurred at 30.
        run.leaves("plane(2, 0)", 64).leaves("plane(2, 1)", 63).leaves("plane(2, 2)", 63).leaves("plane(2, 3)", 4);
    }

    private void planeNumbers() {
        Run run = document.run("Promise 24", "Returns the number").is("plane(0, 0)", 256).is("plane(0, 3)", 8);
        run.is("plane(4, 0)", 0).is("plane(4, 1)", 224).is("plane(4, 2)", 0).is("plane(4, 3)", 0).is("plane(0, 1)", 0);
        // 31 is seen with it, 0 is blurred.
        run.does("lay(7, 31, 7, 31, 4)").is("plane(4, 0)", 1).is("plane(4, 2)", 1).is("plane(4, 3)", 1);
        run.does("lay(0, 0, 0, 0, 4)").is("plane(4, 0)", 2).is("plane(4, 2)", 1).is("plane(4, 3)", 2).is("plane(0, 3)", 8);
        run.does("lay(0, 0, 7, 31, 4)").is("plane(4, 0)", 256).is("plane(4, 2)", 224).is("plane(4, 3)", 8);
        run.is("plane(0, 0)", 0).is("plane(0, 3)", 0).does("set(3, 1)").is("plane(0, 1)", 224).is("plane(4, 1)", 0);
        run.is("plane(4, 2)", 0).does("lay(0, 0, 7, 31, 0)").is("plane(0, 2)", 224).is("plane(0, 0)", 256);
    }

    private void pictures() {
        Run run = document.run("Promise 25", "blurred places are alike").is("pictures()", 1);
        run.does("paint(7, 31, 1)").is("pictures()", 2).does("paint(0, 31, 2)").is("pictures()", 2);
        // In each row the plane 2 begins a column later.
        run = run.anew().winds("01234567").does("printAll()").is("pictures()", 1);
        for (int row = 1; row < 8; row++) {
            run.does("lay(" + row + ", " + (16 + row) + ", " + row + ", 31, 2)", "print(" + row + ")").is("pictures()", row + 1);
        }
        // Then all places of two rows are blurred, whatever their dots and planes are.
        run = run.anew().winds("01234567").does("print(0)").winds("76543210").does("print(1)", "lay(1, 0, 1, 31, 3)");
        run.is("pictures()", 2).does("swap(1, 7)").is("alike(0, 7)", 32).is("pictures()", 2);
        run.does("set(0, 15)").is("row(0, 6)", 32).is("row(7, 6)", 32).is("alike(0, 7)", 32).is("pictures()", 2);
    }

    private void countArguments() {
        Run run = document.run("Promise 26", "what: how many places are 0: with a plane above 0").filled();
        run.outside("count(?)", 0, 18).leaves("count(0)", 64).leaves("count(1)", 64).leaves("count(17)", 33);
        run.leaves("count(18)", 120);
    }

    private void countPlaces() {
        Run run = document.run("Promise 26", "Returns the number").is("count(0)", 0).does("lay(7, 31, 7, 31, 1)");
        run.is("count(0)", 1).does("lay(0, 0, 7, 31, 4)").is("count(0)", 256).does("lay(0, 0, 0, 0, 0)").is("count(0)", 255);
        run.does("set(0, 6)", "lay(0, 0, 7, 31, 4)").is("count(1)", 16).is("count(2)", 0).is("count(3)", 16).is("count(4)", 0);
        run.is("count(5)", 240).is("count(6)", 0).is("count(7)", 16).is("count(8)", 0);
        run.does("lay(0, 0, 7, 31, 0)").is("count(5)", 0).is("count(6)", 240).does("set(0, 16)").is("count(1)", 128);
        run.is("count(3)", 128).does("lay(7, 30, 7, 30, 1)").is("count(2)", 1).is("count(3)", 129).is("count(1)", 128);
        run.does("paint(7, 31, 1)").is("count(4)", 1).is("count(8)", 1).does("paint(7, 15, 1)").is("count(4)", 1);
        run.is("count(8)", 2).does("paint(0, 0, 0)").is("count(8)", 3).is("count(4)", 1);
    }

    private void countOthers() {
        Run run = document.run("Promise 26", "Returns the number").is("count(9)", 1).does("lot(0)").is("count(9)", 0);
        run.does("lot(9999)").is("count(9)", 9999).is("count(10)", 0).winds("0").is("count(10)", 1);
        run.winds("01234567".repeat(3)).is("count(10)", 24).does("unwind()").is("count(10)", 0).is("count(12)", 4);
        run.is("undo()", 3).is("count(12)", 3).is("undo()", 2).is("undo()", 1).is("undo()", 0).is("count(12)", 0);
        run.is("count(11)", 0).types("x").is("count(11)", 1).types("x".repeat(78)).is("count(11)", 79).types("x");
        run.is("count(11)", 80);
        int[] first = {8, 4, 1, 0, 60, 120};
        int[] least = {6, 2, 0, 0, 20, 10};
        int[] greatest = {16, 8, 3, 1, 99, 400};
        for (int what = 0; what < 6; what++) {
            run.is("count(" + (13 + what) + ")", first[what]).does("set(" + what + ", " + least[what] + ")");
            run.is("count(" + (13 + what) + ")", least[what]).does("set(" + what + ", " + greatest[what] + ")");
            run.is("count(" + (13 + what) + ")", greatest[what]);
        }
    }

    private void awayPlane() {
        Run run = document.run("Promise 27", "plane: 0 to 4").filled().outside("away(?)", 0, 4);
        run.leaves("away(0)", 960f / 25f).leaves("away(1)", 840f / 26f).leaves("away(3)", 600f / 28f).leaves("away(4)", 480f / 29f);
        run = document.run("Promise 27", "DISTANCE times r as a float, divided by GAP less r").is("away(1)", 840f / 53f);
        run.does("set(0, 16)", "set(4, 20)", "set(5, 400)").is("away(0)", 1600).is("away(4)", 600);
        run.does("set(3, 1)").is("away(0)", 6400f / 36f).is("away(3)", 5200f / 33f).does("set(4, 99)", "set(5, 10)");
        run.is("away(0)", 160f / 115f).does("set(0, 6)").is("away(4)", 20f / 101f).is("away(1)", 50f / 104f);
        run = document.run("Promise 27", "-1 if plane is out of range").is("away(-1)", -1).is("away(5)", -1);
        run.is("away(0)", 960f / 52f).is("away(4)", 480f / 56f);
    }

    private void clearness() {
        Run run = document.run("Promise 28", "row: 0 to 7").filled().outside("clearness(?)", 0, 7);
        // Rows 0 and 1 have 24 places too, but for one that is blurred.
        run.leaves("clearness(0)", 0.71875).leaves("clearness(1)", 0.71875).leaves("clearness(6)", 0.75);
        run.leaves("clearness(7)", 0.75);
        run = document.run("Promise 28", "-1 if row is out of range").is("clearness(0)", 0).does("set(0, 6)");
        run.does("lay(0, 31, 0, 31, 4)").is("clearness(0)", 0.03125).does("lay(0, 0, 0, 31, 4)").is("clearness(0)", 0.9375);
        run.does("lay(7, 30, 7, 31, 4)").is("clearness(7)", 0.0625).is("clearness(8)", -1).is("clearness(-1)", -1);
    }
}
