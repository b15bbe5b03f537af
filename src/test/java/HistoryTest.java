/** Promises 34 to 36. */
public final class HistoryTest {
    private static final Due DUE = new Due("HistoryTest");

    public static void main(String[] args) {
        undo();
        fourStates();
        save();
        restore();
        DUE.end();
    }

    private static String told(StripDepths x) {
        StringBuilder all = new StringBuilder();
        // One row, as an object has 512 calls at most.
        all.append(Sheets.planes(x, 0)).append(Sheets.dots(x, 0)).append(Sheets.remembered(x, 0));
        for (int what = 9; what <= 18; what++) {
            // Neither the pad nor the history.
            all.append(' ').append(what == 11 || what == 12 ? 0 : x.count(what));
        }
        // The dots of the strip show where it prints.
        return all.append(' ').append(x.ifPrinted(0, 7)).toString();
    }

    private static void undo() {
        StripDepths x = new StripDepths();
        DUE.is("undo none", x.undo(), StripDepths.NOT_POSSIBLE);
        x.paint(0, 0, 3);
        x.paint(0, 0, 4);
        Sheets.append(x, "12");
        DUE.is("undo()", x.undo(), 1);
        DUE.is("the dot", x.at(0, 0, 1), 3);
        DUE.is("the smudge", x.at(0, 0, 7), 0);
        DUE.is("the pad stays", x.count(11), 2);
        DUE.is("undo() again", x.undo(), 0);
        DUE.is("no smudge", x.at(0, 0, 7), StripDepths.NOT_FOUND);
        DUE.is("none is left", x.undo(), StripDepths.NOT_POSSIBLE);
        x.save();
        x.paint(0, 1, 7);
        x.undo();
        DUE.is("the snapshot stays", x.restore(), 0);
    }

    private static void fourStates() {
        StripDepths x = new StripDepths();
        for (int lot = 10; lot <= 70; lot += 10) {
            x.lot(lot);
        }
        DUE.is("states", x.count(12), 4);
        for (int left = 3; left >= 0; left--) {
            DUE.is("undo()", x.undo(), left);
            DUE.is("the lot", x.count(9), 30 + 10 * left);
        }
        DUE.is("older ones are dropped", x.undo(), StripDepths.NOT_POSSIBLE);
        DUE.is("the lot stays", x.count(9), 30);
        x.lot(30);
        DUE.is("a change of nothing", x.count(12), 1);
        x.lot(10000);
        x.paint(0, 0, 8);
        DUE.is("an error is none", x.count(12), 1);
        x.append('1');
        x.clear();
        x.fault(0);
        x.save();
        DUE.is("nor are these", x.count(12), 1);
    }

    private static void save() {
        StripDepths x = Sheets.step();
        // Rows of 0 see the plane 4.
        DUE.is("save()", x.save(), 22);
        x.lay(1, 0, 1, 31, 4);
        DUE.is("save() again", x.save(), 50);
        DUE.is("not a change", x.count(12), 4);
        x.lay(1, 0, 1, 31, 0);
        DUE.is("restore()", x.restore(), 50);
    }

    private static void restore() {
        StripDepths x = new StripDepths();
        DUE.is("restore none", x.restore(), StripDepths.NOT_POSSIBLE);
        DUE.is("no change", x.count(12), 0);
        Sheets.wind(x, "01234567");
        x.lay(0, 16, 0, 31, 2);
        x.print(0);
        x.paint(0, 31, 0);
        x.set(StripDepths.GAP, 33);
        x.save();
        String saved = told(x);
        x.printAll();
        x.unwind();
        x.set(StripDepths.GAP, 20);
        x.lot(99);
        Sheets.append(x, "345");
        // 30 is blurred beside the smudge.
        DUE.is("restore()", x.restore(), 20);
        DUE.holds("all is as saved", told(x).equals(saved));
        DUE.is("the pad stays", x.count(11), 3);
        DUE.is("the history stays", x.count(12), 4);
        x.turn(0);
        DUE.is("the snapshot stays", x.restore(), 20);
        DUE.holds("all is as saved again", told(x).equals(saved));
        x.undo();
        x.undo();
        x.undo();
        DUE.is("undone: the lot", x.count(9), 99);
    }
}
