/** The bounds that the document names in "What it is", "The sheet", "Printing" and "Smudges". */
final class SheetBounds {
    private static final int NONE = StripDepths.NOT_FOUND;
    private static final String ZEROS = "0".repeat(32);

    private final Document document;

    SheetBounds(Document document) {
        this.document = document;
    }

    void hold() {
        calls();
        places();
        planesAndDots();
        reach();
        bound();
        free();
        boundByNow();
        fromTheFirstColumn();
        dotsByThen();
        strip();
        stripAndFreePlaces();
        lot();
        lotOfFirst();
        chains();
        coveredAndLoose();
        torn();
        smudges();
        wiped();
        paintedWithItsOwn();
    }

    private void calls() {
        lastCalls(document.run("What it is", "at most 512 calls"));
        lastCalls(document.run("Not promised", "after its 512th call"));
        StripDepths x = new StripDepths();
        for (int call = 1; call <= 513; call++) {
            // The last answer is free, but no call may throw.
            x.lot(call);
        }
    }

    private void lastCalls(Run run) {
        run.is("lot(1)", 1);
        for (int call = 2; call <= 511; call++) {
            run.is("lot(" + call + ")", call - 1);
        }
        run.is("count(9)", 511);
    }

    private void places() {
        Run run = document.run("The sheet", "8 rows and 32 columns");
        for (int row = 0; row < 8; row++) {
            for (int column = 0; column < 32; column++) {
                run.is("paint(" + row + ", " + column + ", " + (1 + (row + column) % 7) + ")", 0);
            }
        }
        run.is("count(8)", 256);
        run.is("at(0, 0, 1)", 1).is("at(1, 1, 1)", 3).is("at(0, 31, 1)", 4).is("at(1, 0, 1)", 2);
        run.is("at(6, 30, 1)", 2).is("at(7, 30, 1)", 3).is("at(7, 0, 1)", 1).is("at(7, 31, 1)", 4);
        run.anew().filled().outside("at(?, 0, 1)", 0, 7).outside("at(0, ?, 1)", 0, 31);
    }

    private void planesAndDots() {
        Run run = document.run("The sheet", "a plane, 0 to 4, and a dot, 0 to 7");
        for (int row = 0; row < 8; row++) {
            run.planes(row, ZEROS).dots(row, ZEROS);
        }
        run = run.anew().filled();
        run.is("lay(4, 0, 4, 0, 4)", 1).is("at(4, 0, 0)", 4).is("lay(4, 0, 4, 0, 3)", 1).is("at(4, 0, 0)", 3);
        run.is("lay(4, 0, 4, 0, 1)", 1).is("at(4, 0, 0)", 1).is("lay(4, 0, 4, 0, 0)", 1).is("at(4, 0, 0)", 0);
        run.outside("lay(4, 0, 4, 0, ?)", 0, 4);
        run.is("paint(4, 0, 7)", 0).is("at(4, 0, 1)", 7).is("paint(4, 0, 6)", 7).is("at(4, 0, 1)", 6);
        run.is("paint(4, 0, 1)", 6).is("at(4, 0, 1)", 1).is("paint(4, 0, 0)", 1).is("at(4, 0, 1)", 0);
        run.outside("paint(4, 0, ?)", 0, 7);
    }

    private void reach() {
        Run run = document.run("The sheet", "The reach of a place");
        run.does("lay(0, 0, 0, 31, 4)", "lay(1, 0, 1, 31, 3)", "lay(2, 0, 2, 31, 1)");
        // The least reaches, then the greatest ones.
        run.does("set(0, 6)");
        run.is("at(0, 31, 3)", 29).is("at(1, 31, 3)", 28).is("at(2, 31, 3)", 26).is("at(3, 31, 3)", 25);
        run.does("set(0, 16)");
        run.is("at(0, 31, 3)", 19).is("at(1, 31, 3)", 18).is("at(2, 31, 3)", 16).is("at(3, 31, 3)", 15);
    }

    private void bound() {
        Run run = document.run("Printing", "A place is bound");
        for (int plane = 0; plane <= 4; plane++) {
            run.does("lay(" + plane + ", 0, " + plane + ", 31, " + plane + ")");
        }
        for (int period = 6; period <= 16; period++) {
            run.does("set(0, " + period + ")");
            for (int plane = 0; plane <= 4; plane++) {
                int reach = period - plane;
                run.is("at(" + plane + ", " + (reach - 1) + ", 3)", NONE).is("at(" + plane + ", " + reach + ", 3)", 0);
                run.is("at(" + plane + ", " + (reach + 1) + ", 3)", 1).is("at(" + plane + ", 31, 3)", 31 - reach);
            }
        }
    }

    private void free() {
        Run run = document.run("Printing", "Otherwise it is free");
        run.is("at(0, 0, 3)", NONE).is("at(0, 7, 3)", NONE).is("at(0, 8, 3)", 0).is("row(0, 0)", 8);
        // The plane 4 at the column 4 is bound to 0, the plane 4 at the column 3 and the plane 3 at 4 are free.
        run.does("lay(0, 3, 0, 4, 4)").is("at(0, 3, 3)", NONE).is("at(0, 4, 3)", 0).is("row(0, 0)", 7);
        run.does("lay(0, 4, 0, 4, 3)").is("at(0, 4, 3)", NONE).is("row(0, 0)", 8);
    }

    private void boundByNow() {
        Run run = document.run("Printing", "by the planes and the PERIOD of now").winds("01234567").does("print(0)");
        run.is("at(0, 8, 3)", 0).is("at(0, 9, 3)", 1);
        run.does("set(0, 9)").is("at(0, 8, 3)", NONE).is("at(0, 9, 3)", 0);
        run.does("set(0, 7)").is("at(0, 6, 3)", NONE).is("at(0, 7, 3)", 0).is("at(0, 8, 3)", 1);
        run.does("lay(0, 6, 0, 6, 1)").is("at(0, 6, 3)", 0).is("row(0, 3)", 26);
        run.dots(0, "01234567".repeat(4));
    }

    private void fromTheFirstColumn() {
        Run run = document.run("Printing", "gone through from the column 0 on").winds("56");
        run.does("set(0, 6)", "lay(0, 0, 0, 31, 4)", "paint(0, 29, 1)", "paint(0, 0, 1)");
        run.is("print(0)", 32).dots(0, "56".repeat(16));
    }

    private void dotsByThen() {
        Run run = document.run("Printing", "the dot that the place has by then").winds("1");
        run.does("paint(0, 0, 7)", "paint(0, 23, 6)", "print(0)").dots(0, "1".repeat(32));
        // 7 is free, 8 is bound to 0 and 31 to 23.
        run.winds("01234567").does("paint(0, 0, 7)", "print(0)").dots(0, "01234567".repeat(4));
    }

    private void strip() {
        Run run = document.run("Printing", "behind the last dot the first one again");
        printsWith(run, "012345670123456", "0123456701234560");
        printsWith(run, "0123456701234567", "0123456701234567");
        printsWith(run, "01234567012345671", "0123456701234567");
        printsWith(run, "0123456701234567".substring(0, 14), "0123456701234501");
        printsWith(run, "3", "3".repeat(16));
        printsWith(run, "34", "34".repeat(8));
        printsWith(run, "765432107654321076543210", "7654321076543210");
    }

    /** With the PERIOD 16 and the plane 0, sixteen places are free. */
    private void printsWith(Run run, String strip, String want) {
        Run next = run.anew().winds(strip).does("set(0, 16)", "paint(0, 0, 7)", "printAll()");
        next.dots(0, want + want).dots(1, want + want).dots(7, want + want).is("count(9)", 1);
    }

    private void stripAndFreePlaces() {
        Run run = document.run("Printing", "the first free place of the row").does("lay(0, 0, 0, 6, 4)");
        // Free are 0 to 3 and 7: the fifth free place gets the fifth dot, or the first one of four.
        run.winds("12345").does("print(0)").dots(0, "12341235".repeat(4));
        run.winds("1234").does("print(0)").dots(0, "12341231".repeat(4));
        run.winds("123").does("print(0)").dots(0, "12311232".repeat(4));
    }

    private void lot() {
        Run run = document.run("Printing", "(421 * x + 1663) modulo 10000").does("set(0, 6)", "lay(0, 0, 0, 31, 4)");
        // Two places are free. 19 makes 9662, the last one below 10000, and 20 makes 10083.
        lotPrints(run, 19, 2, "01", 9365);
        lotPrints(run, 20, 2, "10", 6606);
        lotPrints(run, 0, 8, "72", 1786);
        lotPrints(run, 1, 8, "43", 9027);
        lotPrints(run, 0, 3, "11", 1786);
        lotPrints(run, 0, 7, "41", 1786);
        lotPrints(run, 9999, 8, "21", 4545);
        lotPrints(run, 9998, 8, "50", 7304);
        // 7597 makes 3200000, just 0, and 9616 makes 9999.
        lotPrints(run, 7597, 8, "07", 1663);
        lotPrints(run, 9616, 8, "72", 1242);
        run.outside("lot(?)", 0, 9999).outside("set(1, ?)", 2, 8);
    }

    private void lotPrints(Run run, int lot, int colors, String want, int then) {
        run.does("lot(" + lot + ")", "set(1, " + colors + ")", "print(0)");
        run.is("at(0, 0, 1)", want.charAt(0) - '0').is("at(0, 1, 1)", want.charAt(1) - '0').is("count(9)", then);
        run.is("at(0, 30, 1)", want.charAt(0) - '0').is("at(0, 31, 1)", want.charAt(1) - '0');
    }

    private void lotOfFirst() {
        Run run = document.run("Printing", "0 to 9999; 1 at first").is("count(9)", 1);
        run.does("set(0, 6)", "lay(0, 0, 0, 31, 4)", "print(0)").dots(0, "03".repeat(16)).is("count(9)", 9027);
        run.winds("5").does("print(0)").dots(0, "5".repeat(32)).is("count(9)", 9027);
        // 2030 and 6293 follow.
        run.does("unwind()", "print(0)").dots(0, "21".repeat(16)).is("count(9)", 6293);
    }

    private void chains() {
        Run run = document.run("Printing", "A chain is a free place together with");
        // The places from 16 on are bound to 1 to 16: none is bound to 0.
        run.does("set(0, 16)", "lay(0, 16, 0, 31, 1)");
        run.is("at(0, 0, 5)", 0).is("at(0, 0, 6)", 1).is("at(0, 1, 6)", 3).is("at(0, 31, 5)", 1).is("row(0, 8)", 3);
        run.is("at(0, 16, 5)", 1).is("at(0, 15, 5)", 15).is("at(0, 15, 6)", 2).is("at(0, 30, 5)", 15);
        // The column 2 is bound to 0, and 3 too, and each one behind to the second one before it: all but 1 to 0.
        run = run.anew().does("set(0, 6)", "lay(0, 0, 0, 31, 4)");
        run.is("at(0, 0, 6)", 16).is("at(0, 1, 6)", 16).is("at(0, 30, 5)", 0).is("at(0, 31, 5)", 1);
        run.does("lay(0, 3, 0, 3, 3)").is("at(0, 0, 6)", 31).is("at(0, 1, 6)", 1).is("row(0, 8)", 31);
        run.is("at(0, 31, 5)", 0).is("at(0, 31, 6)", 31).is("at(0, 1, 5)", 1);
        eachInOne(run.anew().does("lay(0, 5, 0, 20, 3)", "lay(0, 13, 0, 15, 1)"));
    }

    private void eachInOne(Run run) {
        // 5 to 20 are bound to the fifth one before them, 13 to 15 to the seventh one, 21 to 31 to the eighth one.
        run.is("row(0, 0)", 5);
        // Together 32 places: none is in two chains, and none in no chain.
        int[] due = {3, 10, 10, 7, 2};
        for (int column = 0; column < 5; column++) {
            run.is("at(0, " + column + ", 5)", column).is("at(0, " + column + ", 6)", due[column]);
        }
        run.is("at(0, 31, 5)", 3).is("at(0, 31, 6)", 7).is("row(0, 8)", 10);
    }

    private void coveredAndLoose() {
        Run run = document.run("Printing", "A place is covered, if two or more");
        run.is("at(0, 0, 4)", 1).is("row(0, 1)", 0).is("row(0, 2)", 8).is("at(0, 23, 4)", 1).is("at(0, 24, 4)", 0);
        for (int more = 2; more <= 5; more++) {
            // 7 with the plane 1, 6 with 2, 5 with 3 and 4 with 4 are bound to 0, as 8 is.
            int column = 9 - more;
            run.does("lay(0, " + column + ", 0, " + column + ", " + (more - 1) + ")");
            run.is("at(0, 0, 4)", more).is("row(0, 1)", 1).is("row(0, 2)", 8);
        }
        run.does("lay(0, 8, 0, 8, 1)").is("at(0, 0, 4)", 4).is("at(0, 1, 4)", 2).is("row(0, 1)", 2);
        run.does("lay(0, 31, 0, 31, 1)").is("at(0, 23, 4)", 0).is("at(0, 24, 4)", 1).is("row(0, 2)", 8);
        run.does("lay(0, 30, 0, 30, 2)").is("at(0, 24, 4)", 2).is("row(0, 1)", 3).is("row(0, 2)", 9);
    }

    private void torn() {
        Run run = document.run("Printing", "A bound place is torn").winds("01234567").does("print(0)");
        run.is("row(0, 3)", 0);
        // 7 is free and 15 bound to it; 8 is bound to 0 and 16 to 8; none is bound to 31.
        run.does("paint(0, 7, 0)").is("row(0, 3)", 1).does("paint(0, 8, 1)").is("row(0, 3)", 3);
        run.does("paint(0, 31, 6)").is("row(0, 3)", 4).does("paint(0, 31, 7)").is("row(0, 3)", 3);
        // All that are bound are torn: each is bound to the second one before it.
        run = run.anew().winds("0011").does("print(0)", "set(0, 6)", "lay(0, 0, 0, 31, 4)").is("row(0, 3)", 30);
        run.does("lay(0, 2, 0, 2, 2)").is("row(0, 0)", 3).is("row(0, 3)", 29);
        run.does("lay(0, 31, 0, 31, 2)").is("row(0, 3)", 28);
    }

    private void smudges() {
        Run run = document.run("Smudges", "A place that is painted by hand is a smudge").winds("01234567");
        run.does("printAll()").is("at(0, 0, 7)", NONE).is("at(0, 31, 7)", NONE);
        run.is("paint(0, 0, 7)", 0).is("at(0, 0, 7)", 0).is("paint(0, 0, 6)", 7).is("at(0, 0, 7)", 0);
        run.is("paint(0, 0, 5)", 6).is("at(0, 0, 7)", 0).is("at(0, 0, 1)", 5).is("at(0, 1, 7)", NONE);
        run.does("print(1)").is("wipe(1)", 0).is("at(0, 0, 7)", 0);
        run.does("lay(0, 0, 0, 31, 4)", "set(0, 6)", "lot(5)", "shift(0, 31)", "set(0, 8)", "lay(0, 0, 0, 31, 0)");
        run.is("at(0, 0, 7)", 0).is("print(0)", 1).is("at(0, 0, 7)", NONE).is("at(0, 0, 1)", 0);
        run.is("paint(0, 31, 0)", 7).is("at(0, 31, 7)", 7).is("wipe(0)", 1).is("at(0, 31, 7)", NONE);
        run.is("paint(0, 31, 3)", 7).is("paint(0, 31, 2)", 3).is("at(0, 31, 7)", 7).is("count(8)", 1);
        run.is("printAll()", 1).is("at(0, 31, 7)", NONE).is("count(8)", 0);
    }

    private void wiped() {
        Run run = document.run("Smudges", "To wipe a row, each smudge").winds("01234567").does("printAll()");
        run.is("wipe(0)", 0).is("wipe(7)", 0);
        for (int column = 0; column < 32; column++) {
            run.does("paint(7, " + column + ", 6)", "paint(7, " + column + ", 5)");
        }
        run.does("paint(6, 31, 4)", "paint(0, 0, 4)");
        run.smudges(7, "01234567".repeat(4)).is("wipe(7)", 32).dots(7, "01234567".repeat(4));
        run.is("row(7, 7)", 0).is("wipe(7)", 0).is("count(8)", 2).is("at(6, 31, 7)", 7).is("at(6, 31, 1)", 4);
        run.is("wipe(6)", 1).is("at(6, 31, 1)", 7).is("wipe(0)", 1).is("at(0, 0, 1)", 0).is("count(8)", 0);
    }

    private void paintedWithItsOwn() {
        Run run = document.run("Smudges", "painted with the dot that it remembers").winds("01234567").does("print(0)");
        run.is("paint(0, 3, 3)", 3).is("at(0, 3, 7)", 3).is("count(8)", 1).is("at(0, 3, 1)", 3);
        run.is("paint(0, 3, 4)", 3).is("paint(0, 3, 3)", 4).is("at(0, 3, 7)", 3).is("count(8)", 1);
        run.is("paint(0, 3, 2)", 3).is("at(0, 3, 7)", 3).is("wipe(0)", 1).is("at(0, 3, 1)", 3).is("count(8)", 0);
    }
}
