/** Sheets and texts that several tests begin with. */
final class Sheets {
    private Sheets() {
    }

    static int append(StripDepths x, String text) {
        int last = 0;
        for (int i = 0; i < text.length(); i++) {
            last = x.append(text.charAt(i));
        }
        return last;
    }

    static int faultOf(String text, int way) {
        StripDepths x = new StripDepths();
        append(x, text);
        return x.fault(way);
    }

    static int draw(StripDepths x, String text) {
        x.clear();
        append(x, text);
        return x.draw();
    }

    static int wind(StripDepths x, String text) {
        x.clear();
        append(x, text);
        return x.wind();
    }

    /** Rows that are printed have 0 to 7 again and again where no plane is laid. */
    static StripDepths counting() {
        StripDepths x = new StripDepths();
        wind(x, "01234567");
        return x;
    }

    /** Row 0: 0 to 7 twice, then from the column 16 on plane 2: 2 to 7 again and again. */
    static StripDepths step() {
        StripDepths x = counting();
        x.lay(0, 16, 0, 31, 2);
        x.print(0);
        return x;
    }

    static String dots(StripDepths x, int row) {
        return told(x, row, 1);
    }

    static String planes(StripDepths x, int row) {
        return told(x, row, 0);
    }

    /** The planes that are seen, "." where it is blurred. */
    static String seen(StripDepths x, int row) {
        return told(x, row, 2);
    }

    /** The dots that are remembered, "." where there is no smudge. */
    static String remembered(StripDepths x, int row) {
        return told(x, row, 7);
    }

    private static String told(StripDepths x, int row, int what) {
        StringBuilder all = new StringBuilder();
        for (int column = 0; column < 32; column++) {
            int number = x.at(row, column, what);
            all.append(number == StripDepths.NOT_FOUND ? "." : String.valueOf(number));
        }
        return all.toString();
    }
}
