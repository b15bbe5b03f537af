/** Promises 6 to 11. */
public final class DotsTest {
    private static final Due DUE = new Due("DotsTest");

    public static void main(String[] args) {
        printByLot();
        printByStrip();
        printPlanes();
        printAll();
        paint();
        wipe();
        set();
        setWrong();
        lot();
        DUE.end();
    }

    private static void printByLot() {
        StripDepths x = new StripDepths();
        // The lots are 2084, 9027, 2030, 6293, 1016, 9399, 8642 and 9945.
        DUE.is("print(3)", x.print(3), 24);
        DUE.holds("the lots modulo 4", Sheets.dots(x, 3).equals("0321".repeat(8)));
        DUE.is("the lot then", x.count(9), 9945);
        DUE.is("set COLORS", x.set(StripDepths.COLORS, 8), 4);
        x.lot(1);
        x.print(3);
        DUE.holds("the lots modulo 8", Sheets.dots(x, 3).equals("43650721".repeat(4)));
        x.set(StripDepths.PERIOD, 6);
        x.lot(1);
        DUE.is("print of a shorter period", x.print(3), differences("43650721".repeat(4), "436507".repeat(6)));
        DUE.holds("a shorter period", Sheets.dots(x, 3).equals("436507".repeat(6).substring(0, 32)));
        DUE.is("print(-1)", x.print(-1), StripDepths.INVALID_ARGUMENT);
        DUE.is("print(8)", x.print(8), StripDepths.INVALID_ARGUMENT);
    }

    private static int differences(String some, String others) {
        int number = 0;
        for (int i = 0; i < 32; i++) {
            number += some.charAt(i) == others.charAt(i) ? 0 : 1;
        }
        return number;
    }

    private static void printByStrip() {
        StripDepths x = new StripDepths();
        Sheets.wind(x, "705");
        DUE.is("print with a strip", x.print(0), 20);
        DUE.holds("the strip comes again", Sheets.dots(x, 0).equals("70570570".repeat(4)));
        DUE.is("the lot stays", x.count(9), 1);
        x.print(1);
        DUE.holds("each row from its first dot on", Sheets.dots(x, 1).equals("70570570".repeat(4)));
        x.lot(1);
        x.unwind();
        x.print(0);
        DUE.holds("the lot without it", Sheets.dots(x, 0).equals("0321".repeat(8)));
    }

    private static void printPlanes() {
        StripDepths x = Sheets.step();
        DUE.holds("plane 2", Sheets.dots(x, 0).equals("01234567012345672345672345672345"));
        x.lay(0, 0, 0, 6, 4);
        // Free are 0 to 3, and 7: it would be bound to the column -1.
        x.print(0);
        DUE.holds("plane 4 first", Sheets.dots(x, 0).startsWith("01230124" + "01230124"));
        x.paint(0, 4, 7);
        x.paint(0, 0, 0);
        DUE.is("print over smudges", x.print(0), 1);
        DUE.is("no smudges", x.row(0, 7), 0);
        DUE.is("print again", x.print(0), 0);
        DUE.is("changes", x.count(12), 4);
    }

    private static void printAll() {
        StripDepths x = new StripDepths();
        x.print(0);
        int lot = x.count(9);
        StripDepths y = new StripDepths();
        y.lay(3, 0, 3, 31, 2);
        int all = y.printAll();
        DUE.holds("the first row", Sheets.dots(y, 0).equals(Sheets.dots(x, 0)));
        x.print(1);
        DUE.holds("the lot goes on", x.count(9) != lot && Sheets.dots(y, 1).equals(Sheets.dots(x, 1)));
        int above = 0;
        for (int row = 0; row < 8; row++) {
            for (int column = 0; column < 32; column++) {
                above += y.at(row, column, 1) == 0 ? 0 : 1;
            }
        }
        DUE.is("printAll()", all, above);
        StripDepths z = Sheets.counting();
        DUE.is("printAll() with a strip", z.printAll(), 8 * 28);
        z.paint(7, 31, 0);
        z.paint(2, 9, 1);
        DUE.is("printAll() again", z.printAll(), 1);
        DUE.is("no smudges", z.count(8), 0);
        DUE.is("changes", z.count(12), 4);
    }

    private static void paint() {
        StripDepths x = Sheets.step();
        DUE.is("paint(0, 17, 6)", x.paint(0, 17, 6), 3);
        DUE.is("remembered", x.at(0, 17, 7), 3);
        DUE.is("paint it again", x.paint(0, 17, 7), 6);
        DUE.is("the first is remembered", x.at(0, 17, 7), 3);
        DUE.is("paint what it remembers", x.paint(0, 17, 3), 7);
        DUE.is("a smudge all the same", x.at(0, 17, 7), 3);
        DUE.is("the dot", x.at(0, 17, 1), 3);
        DUE.is("paint with its own dot", x.paint(0, 31, 5), 5);
        DUE.is("smudges", x.row(0, 7), 2);
        DUE.holds("the others stay", Sheets.dots(x, 0).equals("01234567012345672345672345672345"));
        int[][] wrong = {{-1, 0, 0}, {8, 0, 0}, {0, -1, 0}, {0, 32, 0}, {0, 0, -1}, {0, 0, 8},
            {Integer.MAX_VALUE, Integer.MIN_VALUE, 0}};
        for (int[] w : wrong) {
            DUE.is("a wrong paint", x.paint(w[0], w[1], w[2]), StripDepths.INVALID_ARGUMENT);
        }
        DUE.is("smudges then", x.count(8), 2);
    }

    private static void wipe() {
        StripDepths x = Sheets.step();
        DUE.is("wipe without smudges", x.wipe(0), 0);
        x.paint(0, 0, 7);
        x.paint(0, 0, 6);
        x.paint(0, 31, 5);
        x.paint(1, 0, 3);
        x.paint(7, 31, 1);
        DUE.is("wipe(0)", x.wipe(0), 2);
        DUE.holds("the dots are back", Sheets.dots(x, 0).equals("01234567012345672345672345672345"));
        DUE.holds("no smudges", Sheets.remembered(x, 0).equals(".".repeat(32)));
        DUE.is("another row stays", x.at(1, 0, 1), 3);
        DUE.is("wipe again", x.wipe(0), 0);
        DUE.is("wipe(7)", x.wipe(7), 1);
        DUE.is("smudges left", x.count(8), 1);
        DUE.is("wipe(-1)", x.wipe(-1), StripDepths.INVALID_ARGUMENT);
        DUE.is("wipe(8)", x.wipe(8), StripDepths.INVALID_ARGUMENT);
    }

    private static final int[][] RANGES = {{6, 16, 8}, {2, 8, 4}, {0, 3, 1}, {0, 1, 0}, {20, 99, 60}, {10, 400, 120}};

    private static void set() {
        StripDepths x = Sheets.step();
        for (int what = 0; what < 6; what++) {
            int least = RANGES[what][0];
            int greatest = RANGES[what][1];
            DUE.is("set to the least", x.set(what, least), RANGES[what][2]);
            DUE.is("set to the greatest", x.set(what, greatest), least);
            DUE.is("set to it again", x.set(what, greatest), greatest);
            DUE.is("it is", x.count(13 + what), greatest);
        }
        DUE.is("changes", x.count(12), 4);
        DUE.holds("no dot changes", Sheets.dots(x, 0).equals("01234567012345672345672345672345"));
    }

    private static void setWrong() {
        StripDepths x = new StripDepths();
        for (int what = 0; what < 6; what++) {
            DUE.is("set below", x.set(what, RANGES[what][0] - 1), StripDepths.INVALID_ARGUMENT);
            DUE.is("set above", x.set(what, RANGES[what][1] + 1), StripDepths.INVALID_ARGUMENT);
            DUE.is("it stays", x.count(13 + what), RANGES[what][2]);
        }
        DUE.is("set(-1, 8)", x.set(-1, 8), StripDepths.INVALID_ARGUMENT);
        DUE.is("set(6, 8)", x.set(6, 8), StripDepths.INVALID_ARGUMENT);
        DUE.is("set(greatest, 8)", x.set(Integer.MAX_VALUE, 8), StripDepths.INVALID_ARGUMENT);
        DUE.is("nothing is recorded", x.count(12), 0);
    }

    private static void lot() {
        StripDepths x = new StripDepths();
        DUE.is("lot(9999)", x.lot(9999), 1);
        DUE.is("lot(0)", x.lot(0), 9999);
        DUE.is("lot(10000)", x.lot(10000), StripDepths.INVALID_ARGUMENT);
        DUE.is("lot(-1)", x.lot(-1), StripDepths.INVALID_ARGUMENT);
        DUE.is("count(9)", x.count(9), 0);
        // 421 * 0 + 1663 is 1663, and 3 modulo 4.
        x.print(0);
        DUE.is("the first dot", x.at(0, 0, 1), 3);
    }
}
