/** Promises 29 to 33. */
public final class WouldBeTest {
    private static final Due DUE = new Due("WouldBeTest");
    private static final int INVALID = StripDepths.INVALID_ARGUMENT;

    public static void main(String[] args) {
        ifPainted();
        ifPaintedWrong();
        ifPrinted();
        ifPrintedByLot();
        shortest();
        bestWindow();
        alike();
        DUE.end();
    }

    private static void ifPainted() {
        StripDepths x = Sheets.step();
        // 11 to 13 would be blurred, and 17 to 19, as 18 is bound to 12.
        DUE.is("otherwise", x.ifPainted(0, 12, 0, 0), 6);
        DUE.is("right", x.ifPainted(0, 12, 0, 1), 16);
        DUE.is("the farthest", x.ifPainted(0, 12, 0, 2), 7);
        DUE.is("its own dot: otherwise", x.ifPainted(0, 12, 4, 0), 0);
        DUE.is("its own dot: right", x.ifPainted(0, 12, 4, 1), 22);
        DUE.is("its own dot: the farthest", x.ifPainted(0, 12, 4, 2), StripDepths.NOT_FOUND);
        // 30 and 31 would be blurred.
        DUE.is("at the end: otherwise", x.ifPainted(0, 31, 0, 0), 2);
        DUE.is("at the end: the farthest", x.ifPainted(0, 31, 0, 2), 1);
        // 8 and 9, as 8 is bound to 0, and 7 is on the sheet without what it would be bound to.
        DUE.is("at the beginning: otherwise", x.ifPainted(0, 0, 7, 0), 2);
        DUE.is("at the beginning: the farthest", x.ifPainted(0, 0, 7, 2), 9);
        DUE.is("to the left", x.ifPainted(0, 19, 7, 0), 6);
        DUE.is("no smudges", x.count(8), 0);
        DUE.holds("no dots", Sheets.dots(x, 0).equals("01234567012345672345672345672345"));
        DUE.is("no changes", x.count(12), 3);
        x.paint(0, 12, 0);
        DUE.is("a smudge painted back", x.ifPainted(0, 12, 4, 1), 22);
    }

    private static void ifPaintedWrong() {
        StripDepths x = new StripDepths();
        int[][] wrong = {{-1, 0, 0, 0}, {8, 0, 0, 0}, {0, -1, 0, 0}, {0, 32, 0, 0}, {0, 0, -1, 0}, {0, 0, 8, 0},
            {0, 0, 0, -1}, {0, 0, 0, 3}};
        for (int[] w : wrong) {
            DUE.is("a wrong ifPainted", x.ifPainted(w[0], w[1], w[2], w[3]), INVALID);
        }
    }

    private static void ifPrinted() {
        StripDepths x = Sheets.counting();
        x.paint(0, 3, 3);
        x.paint(0, 20, 4);
        // The strip has 8 dots: with 8 and more all is seen right but the first period.
        DUE.is("ifPrinted(0, 8)", x.ifPrinted(0, 8), 24);
        DUE.is("ifPrinted(0, 6)", x.ifPrinted(0, 6), 26);
        DUE.is("ifPrinted(0, 7)", x.ifPrinted(0, 7), 25);
        DUE.is("the PERIOD stays", x.count(13), 8);
        DUE.is("smudges stay", x.count(8), 2);
        DUE.is("dots stay", x.at(0, 20, 1), 4);
        DUE.is("changes", x.count(12), 3);
        int[][] wrong = {{-1, 8}, {8, 8}, {0, 5}, {0, 17}, {0, Integer.MAX_VALUE}};
        for (int[] w : wrong) {
            DUE.is("a wrong ifPrinted", x.ifPrinted(w[0], w[1]), INVALID);
        }
    }

    private static void ifPrintedByLot() {
        StripDepths x = new StripDepths();
        x.set(StripDepths.COLORS, 8);
        x.lay(4, 9, 4, 20, 1);
        x.lot(77);
        for (int period = 6; period <= 16; period++) {
            int told = x.ifPrinted(4, period);
            DUE.is("the lot stays", x.count(9), 77);
            StripDepths y = new StripDepths();
            y.set(StripDepths.COLORS, 8);
            y.lay(4, 9, 4, 20, 1);
            y.lot(77);
            y.set(StripDepths.PERIOD, period);
            y.print(4);
            DUE.is("ifPrinted(4, " + period + ")", told, y.row(4, 4));
        }
    }

    private static void shortest() {
        StripDepths x = Sheets.counting();
        DUE.is("shortest(0)", x.shortest(0), 6);
        DUE.is("shortest(-1)", x.shortest(-1), INVALID);
        DUE.is("shortest(8)", x.shortest(8), INVALID);
        StripDepths y = new StripDepths();
        y.lay(2, 0, 2, 31, 2);
        y.set(StripDepths.COLORS, 8);
        for (int lot = 0; lot < 10000; lot += 271) {
            y.lot(lot);
            int best = 6;
            for (int period = 7; period <= 16; period++) {
                best = y.ifPrinted(2, period) > y.ifPrinted(2, best) ? period : best;
            }
            DUE.is("shortest(2) with the lot " + lot, y.shortest(2), best);
        }
        DUE.is("the PERIOD stays", y.count(13), 8);
        StripDepths z = Sheets.counting();
        // Free are the first places alone: plane 4 in the columns 0 to 7 needs 10 to be loose of them.
        z.lay(0, 0, 0, 31, 4);
        DUE.is("all of plane 4", z.shortest(0), bestOf(z));
    }

    private static int bestOf(StripDepths x) {
        int best = 6;
        for (int period = 7; period <= 16; period++) {
            best = x.ifPrinted(0, period) > x.ifPrinted(0, best) ? period : best;
        }
        return best;
    }

    private static void bestWindow() {
        StripDepths x = Sheets.step();
        DUE.is("bestWindow(0)", x.bestWindow(0), 0);
        DUE.is("of several the least", x.bestWindow(1), 0);
        DUE.is("the WINDOW stays", x.count(15), 1);
        DUE.is("bestWindow(-1)", x.bestWindow(-1), INVALID);
        DUE.is("bestWindow(8)", x.bestWindow(8), INVALID);
        StripDepths y = new StripDepths();
        // With WINDOW 0 planes are seen by chance; a greater one sees 0 where the strip comes again.
        Sheets.wind(y, "0011010");
        y.set(StripDepths.PERIOD, 7);
        y.print(0);
        int best = 0;
        int most = -1;
        for (int window = 0; window <= 3; window++) {
            y.set(StripDepths.WINDOW, window);
            if (y.row(0, 4) > most) {
                most = y.row(0, 4);
                best = window;
            }
        }
        DUE.is("bestWindow by hand", y.bestWindow(0), best);
        DUE.holds("not 0", best > 0);
    }

    private static void alike() {
        StripDepths x = Sheets.counting();
        x.printAll();
        DUE.is("alike(0, 1)", x.alike(0, 1), 32);
        DUE.is("alike(3, 3)", x.alike(3, 3), 32);
        x.lay(1, 16, 1, 31, 2);
        x.print(1);
        // Blurred both in 0 to 7, plane 0 both in 8 to 14.
        DUE.is("alike(0, 1) then", x.alike(0, 1), 15);
        DUE.is("alike(1, 0) then", x.alike(1, 0), 15);
        DUE.is("alike(-1, 0)", x.alike(-1, 0), INVALID);
        DUE.is("alike(0, 8)", x.alike(0, 8), INVALID);
    }
}
