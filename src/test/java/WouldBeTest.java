/** Promises 29 to 33. */
public final class WouldBeTest {
    private static final Due DUE = new Due("WouldBeTest");
    private static final int INVALID = StripDepths.INVALID_ARGUMENT;

    public static void main(String[] args) {
        ifPainted();
        ifPaintedWrong();
        ifPrinted();
        ifPrintedByLot();
        shortest();
        bestWindow();
        alike();
        DUE.end();
    }

    private static void ifPainted() {
        StripDepths x = Sheets.step();
        // 11 to 13 would be blurred, and 17 to 19, as 18 is bound to 12.
        DUE.is("otherwise", x.ifPainted(0, 12, 0, 0), 6);
        DUE.is("right", x.ifPainted(0, 12, 0, 1), 16);
        DUE.is("the farthest", x.ifPainted(0, 12, 0, 2), 7);
        DUE.is("its own dot: otherwise", x.ifPainted(0, 12, 4, 0), 0);
        DUE.is("its own dot: right", x.ifPainted(0, 12, 4, 1), 22);
        DUE.is("its own dot: the farthest", x.ifPainted(0, 12, 4, 2), StripDepths.NOT_FOUND);
        // 30 and 31 would be blurred.
        DUE.is("at the end: otherwise", x.ifPainted(0, 31, 0, 0), 2);
        DUE.is("at the end: the farthest", x.ifPainted(0, 31, 0, 2), 1);
        // 8 and 9, as 8 is bound to 0, and 7 is on the sheet without what it would be bound to.
        DUE.is("at the beginning: otherwise", x.ifPainted(0, 0, 7, 0), 2);
        DUE.is("at the beginning: the farthest", x.ifPainted(0, 0, 7, 2), 9);
        DUE.is("to the left", x.ifPainted(0, 19, 7, 0), 6);
        DUE.is("no smudges", x.count(8), 0);
        DUE.holds("no dots", Sheets.dots(x, 0).equals("01234567012345672345672345672345"));
        DUE.is("no changes", x.count(12), 3);
        x.paint(0, 12, 0);
        DUE.is("a smudge painted back", x.ifPainted(0, 12, 4, 1), 22);
    }

    private static void ifPaintedWrong() {
        StripDepths x = new StripDepths();
        int[][] wrong = {{-1, 0, 0, 0}, {8, 0, 0, 0}, {0, -1, 0, 0}, {0, 32, 0, 0}, {0, 0, -1, 0}, {0, 0, 8, 0},
            {0, 0, 0, -1}, {0, 0, 0, 3}};
        for (int[] w : wrong) {
            DUE.is("a wrong ifPainted", x.ifPainted(w[0], w[1], w[2], w[3]), INVALID);
        }
    }

    private static void ifPrinted() {
        StripDepths x = Sheets.counting();
        x.paint(0, 3, 3);
        x.paint(0, 20, 4);
        // The strip has 8 dots: with 8 and more all is seen right but the first period.
        DUE.is("ifPrinted(0, 8)", x.ifPrinted(0, 8), 24);
        DUE.is("ifPrinted(0, 6)", x.ifPrinted(0, 6), 26);
        DUE.is("ifPrinted(0, 7)", x.ifPrinted(0, 7), 25);
        DUE.is("the PERIOD stays", x.count(13), 8);
        DUE.is("smudges stay", x.count(8), 2);
        DUE.is("dots stay", x.at(0, 20, 1), 4);
        DUE.is("changes", x.count(12), 3);
        int[][] wrong = {{-1, 8}, {8, 8}, {0, 5}, {0, 17}, {0, Integer.MAX_VALUE}};
        for (int[] w : wrong) {
            DUE.is("a wrong ifPrinted", x.ifPrinted(w[0], w[1]), INVALID);
        }
    }

    private static void ifPrintedByLot() {
        StripDepths x = new StripDepths();
        x.set(StripDepths.COLORS, 8);
        x.lay(4, 9, 4, 20, 1);
        x.lot(77);
        for (int period = 6; period <= 16; period++) {
            int told = x.ifPrinted(4, period);
            DUE.is("the lot stays", x.count(9), 77);
            StripDepths y = new StripDepths();
            y.set(StripDepths.COLORS, 8);
            y.lay(4, 9, 4, 20, 1);
            y.lot(77);
            y.set(StripDepths.PERIOD, period);
            y.print(4);
            DUE.is("ifPrinted(4, " + period + ")", told, y.row(4, 4));
        }
    }

    private static StripDepths wound(String strip) {
        StripDepths x = new StripDepths();
        Sheets.wind(x, strip);
        return x;
    }

    private static void shortest() {
        // Less of the row is a first period, which is blurred.
        DUE.is("all dots different", Sheets.counting().shortest(0), 6);
        // All dots are alike: plane 4 is seen, and none is seen right.
        DUE.is("of several the least", wound("0").shortest(0), 6);
        // With even periods the row comes again after 2, and plane 4 is seen; with odd ones plane 0 is.
        DUE.is("01", wound("01").shortest(0), 7);
        // Below 16 all dots are alike; with 16 plane 0 is seen from 16 on.
        StripDepths x = wound("0000000000000001");
        DUE.is("the greatest", x.shortest(0), 16);
        DUE.is("ifPrinted(0, 16)", x.ifPrinted(0, 16), 16);
        DUE.is("ifPrinted(0, 15)", x.ifPrinted(0, 15), 0);
        DUE.is("the PERIOD stays", x.count(13), 8);
        DUE.is("the dots stay", x.row(0, 9), 1);
        DUE.is("shortest(-1)", x.shortest(-1), INVALID);
        DUE.is("shortest(8)", x.shortest(8), INVALID);
        x.lay(0, 0, 0, 31, 4);
        DUE.is("with plane 4 the least period", x.shortest(0), 6);
    }

    private static void bestWindow() {
        StripDepths x = Sheets.step();
        DUE.is("bestWindow(0)", x.bestWindow(0), 0);
        DUE.is("of several the least", x.bestWindow(1), 0);
        DUE.is("the WINDOW stays", x.count(15), 1);
        DUE.is("bestWindow(-1)", x.bestWindow(-1), INVALID);
        DUE.is("bestWindow(8)", x.bestWindow(8), INVALID);
        // From 7 to 11 plane 1 has the same dots too: it is seen until the window reaches 12.
        StripDepths y = wound("00000120");
        y.print(0);
        int[] right = {0, 0, 22, 23};
        for (int window = 2; window <= 3; window++) {
            y.set(StripDepths.WINDOW, window);
            DUE.is("seen right with WINDOW " + window, y.row(0, 4), right[window]);
        }
        y.set(StripDepths.WINDOW, 0);
        DUE.is("bestWindow(1)", y.bestWindow(1), 0);
        DUE.is("bestWindow(0) of plane 1 seen", y.bestWindow(0), 3);
        DUE.is("the WINDOW stays 0", y.count(15), 0);
    }

    private static void alike() {
        StripDepths x = Sheets.counting();
        x.printAll();
        DUE.is("alike(0, 1)", x.alike(0, 1), 32);
        DUE.is("alike(3, 3)", x.alike(3, 3), 32);
        x.lay(1, 16, 1, 31, 2);
        x.print(1);
        // Blurred both in 0 to 7, plane 0 both in 8 to 14.
        DUE.is("alike(0, 1) then", x.alike(0, 1), 15);
        DUE.is("alike(1, 0) then", x.alike(1, 0), 15);
        DUE.is("alike(-1, 0)", x.alike(-1, 0), INVALID);
        DUE.is("alike(0, 8)", x.alike(0, 8), INVALID);
    }
}
