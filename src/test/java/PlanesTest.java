/** Promises 1 to 5. */
public final class PlanesTest {
    private static final Due DUE = new Due("PlanesTest");

    public static void main(String[] args) {
        newObject();
        lay();
        layWrong();
        shift();
        swap();
        turn();
        DUE.end();
    }

    private static void newObject() {
        for (int row = 0; row < 8; row++) {
            StripDepths x = new StripDepths();
            DUE.holds("planes are 0", Sheets.planes(x, row).equals("0".repeat(32)));
            DUE.holds("dots are 0", Sheets.dots(x, row).equals("0".repeat(32)));
            DUE.holds("no smudges", Sheets.remembered(x, row).equals(".".repeat(32)));
        }
        StripDepths x = new StripDepths();
        int[] first = {8, 4, 1, 0, 60, 120};
        for (int what = 0; what < 6; what++) {
            DUE.is("count of the setting " + what, x.count(13 + what), first[what]);
        }
        DUE.is("the lot", x.count(9), 1);
        DUE.is("the strip", x.count(10), 0);
        DUE.is("the pad", x.count(11), 0);
        DUE.is("the history", x.count(12), 0);
        DUE.is("unwind()", x.unwind(), StripDepths.NOT_POSSIBLE);
        DUE.is("undo()", x.undo(), StripDepths.NOT_POSSIBLE);
        DUE.is("restore()", x.restore(), StripDepths.NOT_POSSIBLE);
    }

    private static void lay() {
        StripDepths x = new StripDepths();
        DUE.is("lay(1, 2, 3, 5, 3)", x.lay(1, 2, 3, 5, 3), 12);
        DUE.is("lay over it", x.lay(2, 4, 7, 6, 3), 14);
        DUE.is("the same again", x.lay(2, 4, 7, 6, 3), 0);
        DUE.holds("row 0", Sheets.planes(x, 0).equals("0".repeat(32)));
        DUE.holds("row 1", Sheets.planes(x, 1).equals("003333" + "0".repeat(26)));
        DUE.holds("row 2", Sheets.planes(x, 2).equals("0033333" + "0".repeat(25)));
        DUE.holds("row 7", Sheets.planes(x, 7).equals("0000333" + "0".repeat(25)));
        DUE.is("all", x.lay(0, 0, 7, 31, 4), 256);
        DUE.is("one place", x.lay(7, 31, 7, 31, 0), 1);
        DUE.is("at(7, 31, 0)", x.at(7, 31, 0), 0);
        DUE.is("all are 4 but one", x.plane(4, 0), 255);
    }

    private static void layWrong() {
        StripDepths x = new StripDepths();
        int[][] wrong = {{-1, 0, 0, 0, 1}, {8, 0, 8, 0, 1}, {0, -1, 0, 0, 1}, {0, 32, 0, 32, 1}, {1, 0, 0, 0, 1},
            {0, 0, 8, 0, 1}, {0, 1, 0, 0, 1}, {0, 0, 0, 32, 1}, {0, 0, 0, 0, -1}, {0, 0, 0, 0, 5},
            {0, 0, Integer.MAX_VALUE, Integer.MAX_VALUE, 1}, {Integer.MIN_VALUE, 0, 0, 0, 1}};
        for (int[] w : wrong) {
            DUE.is("a wrong lay", x.lay(w[0], w[1], w[2], w[3], w[4]), StripDepths.INVALID_ARGUMENT);
        }
        DUE.is("no plane is laid", x.count(0), 0);
        DUE.is("nothing is recorded", x.count(12), 0);
    }

    private static void shift() {
        StripDepths x = new StripDepths();
        x.lay(2, 0, 2, 3, 1);
        x.lay(2, 30, 2, 31, 4);
        DUE.is("shift(2, 1)", x.shift(2, 1), 5);
        DUE.holds("to the right", Sheets.planes(x, 2).equals("01111" + "0".repeat(26) + "4"));
        DUE.is("shift(2, 0)", x.shift(2, 0), 5);
        DUE.is("shift(2, -2)", x.shift(2, -2), 4);
        DUE.holds("to the left", Sheets.planes(x, 2).equals("111" + "0".repeat(26) + "400"));
        DUE.is("shift(2, 31)", x.shift(2, 31), 1);
        DUE.holds("one is left", Sheets.planes(x, 2).equals("0".repeat(31) + "1"));
        DUE.is("shift(2, -31)", x.shift(2, -31), 1);
        DUE.is("at(2, 0, 0)", x.at(2, 0, 0), 1);
        DUE.is("shift(2, 32)", x.shift(2, 32), StripDepths.INVALID_ARGUMENT);
        DUE.is("shift(2, -32)", x.shift(2, -32), StripDepths.INVALID_ARGUMENT);
        DUE.is("shift(-1, 0)", x.shift(-1, 0), StripDepths.INVALID_ARGUMENT);
        DUE.is("shift(8, 0)", x.shift(8, 0), StripDepths.INVALID_ARGUMENT);
        DUE.is("shift(0, least)", x.shift(0, Integer.MIN_VALUE), StripDepths.INVALID_ARGUMENT);
        StripDepths y = Sheets.step();
        y.paint(0, 3, 7);
        y.shift(0, 5);
        DUE.holds("dots stay", Sheets.dots(y, 0).startsWith("01274567"));
        DUE.is("smudges stay", y.at(0, 3, 7), 3);
    }

    private static void swap() {
        StripDepths x = Sheets.step();
        x.paint(0, 1, 6);
        x.lay(5, 30, 5, 31, 2);
        DUE.is("swap(0, 5)", x.swap(0, 5), 14);
        DUE.holds("planes", Sheets.planes(x, 5).equals("0".repeat(16) + "2".repeat(16)));
        DUE.holds("planes of the other", Sheets.planes(x, 0).equals("0".repeat(30) + "22"));
        DUE.holds("dots", Sheets.dots(x, 5).startsWith("0623456701234567234567"));
        DUE.holds("dots of the other", Sheets.dots(x, 0).equals("0".repeat(32)));
        DUE.holds("smudges", Sheets.remembered(x, 5).equals(".1" + ".".repeat(30)));
        DUE.holds("smudges of the other", Sheets.remembered(x, 0).equals(".".repeat(32)));
        DUE.is("swap(5, 0)", x.swap(5, 0), 14);
        DUE.is("swap(3, 3)", x.swap(3, 3), StripDepths.INVALID_ARGUMENT);
        DUE.is("swap(-1, 3)", x.swap(-1, 3), StripDepths.INVALID_ARGUMENT);
        DUE.is("swap(3, 8)", x.swap(3, 8), StripDepths.INVALID_ARGUMENT);
    }

    private static void turn() {
        StripDepths x = Sheets.step();
        x.paint(0, 0, 5);
        // Plane 2 is seen from 6 to 20 (laid up to 15), plane 0 from 25 to 29, as 30 has the smudge beside it.
        DUE.is("turn(0)", x.turn(0), 15);
        DUE.holds("dots", Sheets.dots(x, 0).equals("54327654327654327654321076543215"));
        DUE.holds("planes", Sheets.planes(x, 0).equals("2".repeat(16) + "0".repeat(16)));
        DUE.holds("smudges", Sheets.remembered(x, 0).equals(".".repeat(31) + "0"));
        DUE.holds("seen", Sheets.seen(x, 0).equals("......222222222222222....00000.."));
        DUE.is("turn(8)", x.turn(8), StripDepths.INVALID_ARGUMENT);
        DUE.is("turn(-1)", x.turn(-1), StripDepths.INVALID_ARGUMENT);
    }
}
