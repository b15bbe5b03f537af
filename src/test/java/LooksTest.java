/** Promises 18 to 28. */
public final class LooksTest {
    private static final Due DUE = new Due("LooksTest");
    private static final int NONE = StripDepths.NOT_FOUND;
    private static final int INVALID = StripDepths.INVALID_ARGUMENT;

    public static void main(String[] args) {
        at();
        seen();
        eyesTakeTheNearest();
        fits();
        row();
        rowOfSmudges();
        echo();
        echoAt();
        faulty();
        plane();
        pictures();
        count();
        away();
        clearness();
        DUE.end();
    }

    private static void at() {
        StripDepths x = Sheets.step();
        // The chain of 0 is 0 and 8; that of 4 goes on with 12, 18, 24 and 30.
        int[][] due = {{0, 0, NONE, NONE, 1, 0, 2, NONE}, {2, 4, 2, 12, 1, 4, 5, NONE}};
        for (int what = 0; what < 8; what++) {
            DUE.is("at(0, 0, " + what + ")", x.at(0, 0, what), due[0][what]);
            DUE.is("at(0, 18, " + what + ")", x.at(0, 18, what), due[1][what]);
        }
        x.paint(0, 18, 7);
        DUE.is("a smudge", x.at(0, 18, 7), 4);
        DUE.is("bound to nothing lower", x.at(0, 7, 3), NONE);
        DUE.is("bound to the first", x.at(0, 8, 3), 0);
        DUE.is("bound by none", x.at(0, 31, 4), 0);
        x.set(StripDepths.PERIOD, 16);
        DUE.is("it goes by the PERIOD of now", x.at(0, 18, 3), 4);
        DUE.is("and so do chains", x.at(0, 17, 6), 3);
        int[][] wrong = {{-1, 0, 0}, {8, 0, 0}, {0, -1, 0}, {0, 32, 0}, {0, 0, -1}, {0, 0, 8},
            {Integer.MIN_VALUE, 0, 2}, {0, Integer.MAX_VALUE, 2}};
        for (int[] w : wrong) {
            DUE.is("a wrong at", x.at(w[0], w[1], w[2]), INVALID);
        }
    }

    private static void seen() {
        StripDepths x = Sheets.step();
        DUE.holds("WINDOW 1", Sheets.seen(x, 0).equals("........0000000..222222222222222"));
        x.set(StripDepths.WINDOW, 0);
        DUE.holds("WINDOW 0", Sheets.seen(x, 0).equals("........000000002222222222222222"));
        x.set(StripDepths.WINDOW, 3);
        DUE.holds("WINDOW 3", Sheets.seen(x, 0).equals("........00000......2222222222222"));
        x.set(StripDepths.CROSSED, 1);
        DUE.holds("CROSSED", Sheets.seen(x, 0).equals("........44444......2222222222222"));
        x.set(StripDepths.PERIOD, 10);
        x.set(StripDepths.WINDOW, 1);
        DUE.holds("PERIOD 10", Sheets.seen(x, 0).equals("........2222222..000000000000000"));
    }

    private static void eyesTakeTheNearest() {
        StripDepths x = new StripDepths();
        // All dots are alike: a plane fits wherever its reach does, plane 4 first, and eyes keep it.
        DUE.holds("they keep their plane", Sheets.seen(x, 0).equals("....4444444444444444444444444444"));
        // 6 fits the planes 2 and 4, 7 fits 2: from 0 on 2 is nearer.
        seenBeginsWith("......22", 2, 0, 2, 3, 4, 5, 2, 0);
        // 7 fits 3 too, but they have 2.
        seenBeginsWith("......22", 2, 0, 0, 3, 4, 5, 2, 0);
        // 7 fits 3 alone, and 8 fits 1 alone.
        seenBeginsWith("......231", 2, 7, 0, 3, 4, 5, 2, 0, 7);
        // 7 fits 4, 3 and 1: from 0 on 1 is the nearest; 8 fits 4 alone.
        seenBeginsWith(".......14", 2, 7, 2, 2, 4, 5, 6, 2, 4);
        // 7 fits none, and they keep 2; 8 fits 1 and 3, as far away: the greater one.
        seenBeginsWith("......2.3", 1, 0, 2, 0, 5, 6, 1, 4, 0);
        // 5 is like 2 alone, and 9 like 0 alone: there is no plane for 3 columns, nor for 9.
        seenBeginsWith("....4.", 1, 2, 3, 4, 1, 3);
        seenBeginsWith("..........", 1, 2, 3, 4, 5, 6, 7, 0, 0, 1);
    }

    private static void seenBeginsWith(String want, int... dots) {
        StripDepths x = new StripDepths();
        x.set(StripDepths.WINDOW, 0);
        for (int column = 0; column < dots.length; column++) {
            x.paint(0, column, dots[column]);
        }
        String seen = Sheets.seen(x, 0);
        DUE.holds("eyes see " + want + ", not " + seen, seen.startsWith(want));
    }

    private static void fits() {
        StripDepths x = Sheets.step();
        DUE.is("fits(0, 7, 0)", x.fits(0, 7, 0), 0);
        DUE.is("fits(0, 8, 0)", x.fits(0, 8, 0), 1);
        DUE.is("fits(0, 14, 0)", x.fits(0, 14, 0), 1);
        DUE.is("fits(0, 15, 0)", x.fits(0, 15, 0), 0);
        DUE.is("fits(0, 17, 2)", x.fits(0, 17, 2), 1);
        DUE.is("fits(0, 31, 2)", x.fits(0, 31, 2), 1);
        DUE.is("fits(0, 17, 1)", x.fits(0, 17, 1), 0);
        DUE.is("fits(1, 17, 1)", x.fits(1, 17, 1), 1);
        x.set(StripDepths.CROSSED, 1);
        DUE.is("the same with CROSSED", x.fits(0, 31, 2), 1);
        int[][] wrong = {{-1, 0, 0}, {8, 0, 0}, {0, -1, 0}, {0, 32, 0}, {0, 0, -1}, {0, 0, 5}};
        for (int[] w : wrong) {
            DUE.is("a wrong fits", x.fits(w[0], w[1], w[2]), INVALID);
        }
    }

    private static void row() {
        StripDepths x = Sheets.step();
        // Chains of 4 and 5 places behind 0 to 7, without those of 8 and 9, to which none is bound.
        int[] due = {8, 0, 8, 0, 22, 0, 10, 0, 5, 8, 1};
        for (int what = 0; what <= 10; what++) {
            DUE.is("row(0, " + what + ")", x.row(0, what), due[what]);
        }
        DUE.is("row(0, -1)", x.row(0, -1), INVALID);
        DUE.is("row(0, 11)", x.row(0, 11), INVALID);
        DUE.is("row(-1, 0)", x.row(-1, 0), INVALID);
        DUE.is("row(8, 0)", x.row(8, 0), INVALID);
        DUE.is("different dots of a row of 0", x.row(1, 9), 1);
        DUE.is("changes of a row of 0", x.row(1, 10), 0);
    }

    private static void rowOfSmudges() {
        StripDepths x = Sheets.step();
        x.paint(0, 12, 0);
        x.paint(0, 31, 5);
        // The column 12 is bound to 4 and binds 18: both are torn.
        DUE.is("torn", x.row(0, 3), 2);
        DUE.is("smudges", x.row(0, 7), 2);
        DUE.is("seen right", x.row(0, 4), 16);
        DUE.is("blurred", x.row(0, 6), 16);
        x.lay(0, 8, 0, 15, 2);
        // 8 to 15 are bound to 2 to 9, 16 to 31 to 10 to 25.
        DUE.is("loose", x.row(0, 2), 2 + 6);
        x.lay(0, 16, 0, 31, 0);
        // 16 and 17 are bound to 8 and 9, as 14 and 15 are.
        DUE.is("covered", x.row(0, 1), 2);
        DUE.is("seen wrong", x.row(0, 5), x.plane(0, 1) + x.plane(2, 1) - seenOfOthers(x) - x.row(0, 4));
    }

    private static int seenOfOthers(StripDepths x) {
        int number = 0;
        for (int row = 1; row < 8; row++) {
            number += x.row(row, 4) + x.row(row, 5);
        }
        // All of them see the plane 4.
        return number - x.plane(4, 1);
    }

    private static void echo() {
        StripDepths x = Sheets.step();
        DUE.is("echo(0, 8)", x.echo(0, 8), 8);
        DUE.is("echo(0, 6)", x.echo(0, 6), 16);
        DUE.is("echo(0, 2)", x.echo(0, 2), 0 + 1 - 1);
        DUE.is("echo of alike ones", x.echo(1, 2), 30);
        DUE.is("echo(1, 24)", x.echo(1, 24), 8);
        DUE.is("echo(0, 1)", x.echo(0, 1), INVALID);
        DUE.is("echo(0, 25)", x.echo(0, 25), INVALID);
        DUE.is("echo(-1, 8)", x.echo(-1, 8), INVALID);
        DUE.is("echo(8, 8)", x.echo(8, 8), INVALID);
    }

    private static void echoAt() {
        StripDepths x = Sheets.counting();
        x.print(0);
        // Echoes of 8, 16 and 24 alone: 24, 16 and 8 places.
        int[] due = {8, 16, 24, 2, 3, 4, 5, 6, 7, 9, 10, 11, 12, 13, 14, 15, 17, 18, 19, 20, 21, 22, 23};
        for (int place = 0; place < 23; place++) {
            DUE.is("echoAt(0, " + place + ")", x.echoAt(0, place), due[place]);
            DUE.is("echoAt(1, " + place + ")", x.echoAt(1, place), 2 + place);
        }
        DUE.is("echoAt(0, -1)", x.echoAt(0, -1), INVALID);
        DUE.is("echoAt(0, 23)", x.echoAt(0, 23), INVALID);
        DUE.is("echoAt(-1, 0)", x.echoAt(-1, 0), INVALID);
        DUE.is("echoAt(8, 0)", x.echoAt(8, 0), INVALID);
    }

    private static void faulty() {
        StripDepths x = Sheets.counting();
        x.printAll();
        // Wrong where the plane 1 is laid but 0 is seen: 2 in row 6, 2 in row 3, 8 in row 1; all have 8 blurred ones.
        x.lay(6, 20, 6, 21, 1);
        x.lay(3, 30, 3, 31, 1);
        x.lay(1, 8, 1, 15, 1);
        // Two of row 5 are blurred in place of wrong ones: 10 faults as rows 3 and 6 have, but more blurred ones.
        x.paint(5, 31, 0);
        DUE.is("blurred of row 5", x.row(5, 6), 10);
        int[] due = {1, 5, 3, 6, 0, 2, 4, 7};
        for (int place = 0; place < 8; place++) {
            DUE.is("faulty(" + place + ")", x.faulty(place), due[place]);
        }
        DUE.is("faulty(-1)", x.faulty(-1), INVALID);
        DUE.is("faulty(8)", x.faulty(8), INVALID);
    }

    private static void plane() {
        StripDepths x = Sheets.step();
        DUE.is("plane(2, 0)", x.plane(2, 0), 16);
        DUE.is("plane(2, 1)", x.plane(2, 1), 15);
        DUE.is("plane(2, 2)", x.plane(2, 2), 15);
        DUE.is("plane(2, 3)", x.plane(2, 3), 1);
        DUE.is("plane(0, 0)", x.plane(0, 0), 240);
        DUE.is("plane(0, 1)", x.plane(0, 1), 7);
        DUE.is("plane(0, 3)", x.plane(0, 3), 8);
        DUE.is("plane(4, 0)", x.plane(4, 0), 0);
        DUE.is("plane(4, 1)", x.plane(4, 1), 7 * 28);
        DUE.is("plane(4, 2)", x.plane(4, 2), 0);
        DUE.is("plane(4, 3)", x.plane(4, 3), 0);
        x.lay(0, 17, 1, 18, 4);
        DUE.is("laid and seen", x.plane(4, 2), 2);
        DUE.is("laid in rows", x.plane(4, 3), 2);
        x.set(StripDepths.CROSSED, 1);
        DUE.is("seen with CROSSED", x.plane(0, 1), 7 * 28);
        DUE.is("plane(-1, 0)", x.plane(-1, 0), INVALID);
        DUE.is("plane(5, 0)", x.plane(5, 0), INVALID);
        DUE.is("plane(0, -1)", x.plane(0, -1), INVALID);
        DUE.is("plane(0, 4)", x.plane(0, 4), INVALID);
    }

    private static void pictures() {
        StripDepths x = new StripDepths();
        DUE.is("all alike", x.pictures(), 1);
        Sheets.wind(x, "01234567");
        x.print(7);
        DUE.is("one other", x.pictures(), 2);
        Sheets.wind(x, "76543210");
        x.print(0);
        DUE.is("by what is seen, not by dots", x.pictures(), 2);
        x.lay(2, 0, 4, 31, 3);
        DUE.is("nor by planes", x.pictures(), 2);
        for (int row = 1; row < 7; row++) {
            x.lay(row, 20 + row, row, 31, 2);
            x.print(row);
        }
        DUE.is("many", x.pictures(), 7);
    }

    private static void count() {
        StripDepths x = Sheets.step();
        x.paint(0, 12, 0);
        x.paint(3, 0, 5);
        Sheets.append(x, "0,0:");
        DUE.is("above 0", x.count(0), 16);
        for (int what = 1; what <= 8; what++) {
            int sum = 0;
            for (int row = 0; row < 8; row++) {
                sum += x.row(row, what - 1);
            }
            DUE.is("count(" + what + ")", x.count(what), sum);
        }
        DUE.is("free", x.count(1), 64);
        DUE.is("loose", x.count(3), 64);
        DUE.is("torn", x.count(4), 3);
        DUE.is("smudges", x.count(8), 2);
        int[] due = {1, 8, 4, 4, 8, 4, 1, 0, 60, 120};
        for (int what = 9; what <= 18; what++) {
            DUE.is("count(" + what + ")", x.count(what), due[what - 9]);
        }
        DUE.is("count(-1)", x.count(-1), INVALID);
        DUE.is("count(19)", x.count(19), INVALID);
        DUE.is("count(greatest)", x.count(Integer.MAX_VALUE), INVALID);
    }

    private static void away() {
        StripDepths x = new StripDepths();
        DUE.is("away(0)", x.away(0), 960f / 52f);
        DUE.is("away(4)", x.away(4), 480f / 56f);
        x.set(StripDepths.CROSSED, 1);
        DUE.is("away(0) with CROSSED", x.away(0), 960f / 68f);
        DUE.is("away(3) with CROSSED", x.away(3), 600f / 65f);
        x.set(StripDepths.CROSSED, 0);
        x.set(StripDepths.PERIOD, 16);
        x.set(StripDepths.GAP, 20);
        x.set(StripDepths.DISTANCE, 400);
        DUE.is("the farthest", x.away(0), 1600f);
        DUE.is("away(1)", x.away(1), 1200f);
        DUE.is("away(-1)", x.away(-1), -1f);
        DUE.is("away(5)", x.away(5), -1f);
    }

    private static void clearness() {
        StripDepths x = Sheets.step();
        DUE.is("clearness(0)", x.clearness(0), 22.0 / 32.0);
        DUE.is("clearness(1)", x.clearness(1), 0.0);
        DUE.is("clearness(-1)", x.clearness(-1), -1.0);
        DUE.is("clearness(8)", x.clearness(8), -1.0);
    }
}
