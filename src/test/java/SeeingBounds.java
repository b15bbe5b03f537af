/** The bounds that the document names in "Seeing", "Echoes", "Eyes" and "Settings". */
final class SeeingBounds {
    private static final int NONE = StripDepths.NOT_FOUND;
    private static final int[][] RANGES = {{6, 16, 8}, {2, 8, 4}, {0, 3, 1}, {0, 1, 0}, {20, 99, 60}, {10, 400, 120}};

    private final Document document;

    SeeingBounds(Document document) {
        this.document = document;
    }

    void hold() {
        fitsFromItsReachOn();
        fitsItsWindow();
        fitsAtTheEdges();
        firstPlane();
        takenPlanes();
        blurred();
        crossed();
        rightAndWrong();
        neither();
        echoes();
        orderOfEchoes();
        away();
        settings();
        settingsChangeNoDot();
    }

    private void fitsFromItsReachOn() {
        Run run = document.run("Seeing", "if c less d is 0 or more");
        for (int period = 6; period <= 16; period += 2) {
            run.does("set(0, " + period + ")");
            for (int plane = 0; plane <= 4; plane++) {
                int reach = period - plane;
                run.is("fits(0, " + (reach - 1) + ", " + plane + ")", 0);
                run.is("fits(0, " + reach + ", " + plane + ")", 1);
                run.is("fits(0, " + (reach + 1) + ", " + plane + ")", 1).is("fits(0, 31, " + plane + ")", 1);
            }
        }
        run.anew().filled().outside("fits(4, 31, ?)", 0, 4);
    }

    private void fitsItsWindow() {
        Run run = document.run("Seeing", "for each k from c less WINDOW to c and WINDOW");
        for (int window = 0; window <= 3; window++) {
            // The plane 0 at 20: 20 and its window are held against 12 and its window.
            fitsWithPainted(run, window, 20, 20 - window - 1, 1);
            fitsWithPainted(run, window, 20, 20 - window, 0);
            fitsWithPainted(run, window, 20, 20 + window, 0);
            fitsWithPainted(run, window, 20, 20 + window + 1, 1);
            fitsWithPainted(run, window, 20, 12 - window - 1, 1);
            fitsWithPainted(run, window, 20, 12 - window, 0);
            fitsWithPainted(run, window, 20, 12 + window, 0);
            fitsWithPainted(run, window, 20, 12 + window + 1, 1);
        }
    }

    private void fitsWithPainted(Run run, int window, int column, int painted, int want) {
        Run next = run.anew().does("set(2, " + window + ")", "paint(0, " + painted + ", 1)");
        next.is("fits(0, " + column + ", 0)", want).is("fits(1, " + column + ", 0)", 1);
    }

    private void fitsAtTheEdges() {
        Run run = document.run("Seeing", "with k and k less d both on the sheet (0 to 31)");
        // At 8 the window of 3 begins with 8, as 7 less 8 is not on the sheet; it ends with 11, held against 3.
        fitsWithPainted(run, 3, 8, 7, 1);
        fitsWithPainted(run, 3, 8, 8, 0);
        fitsWithPainted(run, 3, 8, 0, 0);
        fitsWithPainted(run, 3, 8, 3, 0);
        fitsWithPainted(run, 3, 8, 4, 1);
        fitsWithPainted(run, 3, 8, 11, 0);
        fitsWithPainted(run, 3, 8, 12, 1);
        // At 31 it ends with 31, and begins with 28, held against 20; at 30 with 27.
        fitsWithPainted(run, 3, 31, 31, 0);
        fitsWithPainted(run, 3, 31, 28, 0);
        fitsWithPainted(run, 3, 31, 27, 1);
        fitsWithPainted(run, 3, 31, 23, 0);
        fitsWithPainted(run, 3, 31, 24, 1);
        fitsWithPainted(run, 3, 31, 19, 1);
        fitsWithPainted(run, 3, 30, 27, 0);
        fitsWithPainted(run, 3, 30, 31, 0);
    }

    /**
     * A row on which just one plane fits at 19, or none if it is NONE, just some planes fit at 25, and none fits
     * elsewhere.
     */
    private static Run twoPlaces(Run run, int first, boolean[] then) {
        Run next = run.anew().does("set(0, 16)", "set(2, 0)");
        for (int column = 12; column < 32; column++) {
            next.does("paint(0, " + column + ", " + (column < 20 ? 6 : column < 25 ? 7 : column == 25 ? 2 : 5) + ")");
        }
        if (first != NONE) {
            next.does("paint(0, 19, 1)", "paint(0, " + (3 + first) + ", 1)");
        }
        for (int plane = 0; plane <= 4; plane++) {
            if (then[plane]) {
                next.does("paint(0, " + (9 + plane) + ", 2)");
            }
        }
        return next;
    }

    private static boolean[] planesOf(int set) {
        boolean[] planes = new boolean[5];
        for (int plane = 0; plane <= 4; plane++) {
            planes[plane] = (set >> plane & 1) == 1;
        }
        return planes;
    }

    /** The nearest plane, sought from the greatest one on, so that of two the greater one is found. */
    private static int nearest(int had, boolean[] planes) {
        int best = NONE;
        for (int plane = 4; plane >= 0; plane--) {
            if (planes[plane] && (best == NONE || Math.abs(plane - had) < Math.abs(best - had))) {
                best = plane;
            }
        }
        return best;
    }

    private void firstPlane() {
        Run run = document.run("Seeing", "have a plane, 0 at the beginning");
        for (int set = 1; set < 32; set++) {
            // The least plane is the nearest one to 0.
            twoPlaces(run, NONE, planesOf(set)).is("at(0, 25, 2)", Integer.numberOfTrailingZeros(set)).is("row(0, 6)", 31);
        }
        // From the column 0 on: with all dots alike they take the plane 4 at 4, where no other one fits yet.
        run.anew().seen(0, "....4444444444444444444444444444");
    }

    private void takenPlanes() {
        Run run = document.run("Seeing", "they take the one of these that is the least away");
        for (int had = 0; had <= 4; had++) {
            for (int set = 1; set < 32; set++) {
                Run next = twoPlaces(run, had, planesOf(set)).is("at(0, 19, 2)", had);
                next.is("at(0, 25, 2)", nearest(had, planesOf(set))).is("row(0, 6)", 30);
            }
        }
        // Of two that are as far away the greater one, told once more by hand.
        twoPlaces(run, 2, new boolean[] {true, true, false, true, true}).is("at(0, 25, 2)", 3);
        twoPlaces(run, 2, new boolean[] {true, false, false, false, true}).is("at(0, 25, 2)", 4);
        twoPlaces(run, 2, new boolean[] {true, true, false, false, true}).is("at(0, 25, 2)", 1);
        twoPlaces(run, 1, new boolean[] {true, false, true, false, false}).is("at(0, 25, 2)", 2);
        twoPlaces(run, 3, new boolean[] {false, false, true, false, true}).is("at(0, 25, 2)", 4);
    }

    private void blurred() {
        Run run = document.run("Seeing", "If none fits, the place is blurred");
        for (int had = 0; had <= 4; had++) {
            twoPlaces(run, had, planesOf(0)).is("at(0, 25, 2)", NONE).is("row(0, 6)", 31);
        }
        // They keep 4 and 3 over five blurred places: 3 and 4 are nearer than 0 and 1.
        twoPlaces(run, 4, new boolean[] {true, true, false, true, false}).is("at(0, 24, 2)", NONE).is("at(0, 25, 2)", 3);
        twoPlaces(run, 3, new boolean[] {true, true, false, false, true}).is("at(0, 24, 2)", NONE).is("at(0, 25, 2)", 4);
        // Eight dots again and again have no plane with reaches of 11 to 15, and a plane 0 with 16.
        Run all = run.anew().winds("01234567").does("print(0)", "set(0, 15)", "set(2, 0)");
        all.seen(0, ".".repeat(32)).is("row(0, 6)", 32);
        all.does("set(0, 16)").is("row(0, 6)", 16).is("at(0, 15, 2)", NONE).is("at(0, 16, 2)", 0);
    }

    private void crossed() {
        Run run = document.run("Seeing", "with CROSSED as 1 it is 4 less that");
        for (int plane = 0; plane <= 4; plane++) {
            Run next = twoPlaces(run, plane, planesOf(0)).is("at(0, 19, 2)", plane);
            next.does("set(3, 1)").is("at(0, 19, 2)", 4 - plane).is("at(0, 18, 2)", NONE).is("at(0, 20, 2)", NONE);
        }
        // What eyes take goes on from the plane taken, not from the one seen.
        Run next = twoPlaces(run, 4, new boolean[] {true, false, false, true, false}).does("set(3, 1)");
        next.is("at(0, 19, 2)", 0).is("at(0, 25, 2)", 1);
    }

    private void rightAndWrong() {
        Run run = document.run("Seeing", "The place is seen right");
        for (int plane = 0; plane <= 4; plane++) {
            Run next = twoPlaces(run, plane, planesOf(0));
            for (int laid = 0; laid <= 4; laid++) {
                next.does("lay(0, 19, 0, 19, " + laid + ")");
                next.is("row(0, 4)", laid == plane ? 1 : 0).is("row(0, 5)", laid == plane ? 0 : 1);
            }
            next.does("set(3, 1)", "lay(0, 19, 0, 19, " + (4 - plane) + ")").is("row(0, 4)", 1).is("row(0, 5)", 0);
        }
    }

    private void neither() {
        Run run = document.run("Seeing", "A blurred place is neither").winds("01234567").does("print(0)");
        run.does("set(0, 15)").is("row(0, 4)", 0).is("row(0, 5)", 0).is("row(0, 6)", 32);
        run.does("lay(0, 0, 0, 31, 4)").is("row(0, 4)", 0).is("row(0, 5)", 0).is("row(0, 6)", 32);
        run.does("lay(0, 0, 0, 31, 0)", "set(0, 8)").is("row(0, 4)", 24).is("row(0, 5)", 0).is("row(0, 6)", 8);
        run.does("lay(0, 0, 0, 8, 1)").is("row(0, 4)", 23).is("row(0, 5)", 1).is("row(0, 6)", 8);
    }

    private void echoes() {
        Run run = document.run("Echoes", "The echo of a reach e, 2 to 24");
        run.is("echo(0, 2)", 30).is("echo(0, 3)", 29).is("echo(0, 23)", 9).is("echo(0, 24)", 8);
        run.anew().filled().outside("echo(0, ?)", 2, 24);
        // The column e is counted, held against 0, and 31 is, held against 31 less e.
        run.anew().does("paint(0, 0, 1)").is("echo(0, 2)", 29).is("echo(0, 24)", 7);
        run.anew().does("paint(0, 31, 1)").is("echo(0, 2)", 29).is("echo(0, 24)", 7);
        run.anew().does("paint(0, 24, 1)").is("echo(0, 24)", 7).is("echo(0, 23)", 8);
        run.anew().does("paint(0, 7, 1)").is("echo(0, 24)", 7).is("echo(0, 23)", 8);
        // With 24, 8 to 23 are held against none.
        Run next = run.anew();
        for (int column = 8; column <= 23; column++) {
            next.does("paint(0, " + column + ", 1)");
        }
        next.is("echo(0, 24)", 8).is("echo(0, 23)", 7).is("echo(0, 22)", 6);
    }

    private void orderOfEchoes() {
        Run run = document.run("Echoes", "of several the one of the least reach");
        for (int place = 0; place <= 22; place++) {
            run.is("echoAt(0, " + place + ")", 2 + place);
        }
        // 2 and 3 have 28, then 4 has 27.
        run.does("paint(0, 29, 1)").is("echo(0, 2)", 28).is("echo(0, 3)", 28).is("echo(0, 4)", 27);
        run.is("echoAt(0, 0)", 2).is("echoAt(0, 1)", 3).is("echoAt(0, 2)", 4);
        // 3 has 27, 2 and 4 have 26, 5 has 25.
        run.does("paint(0, 2, 1)").is("echo(0, 3)", 27).is("echo(0, 2)", 26).is("echo(0, 4)", 26);
        run.is("echoAt(0, 0)", 3).is("echoAt(0, 1)", 2).is("echoAt(0, 2)", 4).is("echoAt(0, 3)", 5);
        // 8, 16 and 24 have echoes, the others have none.
        Run next = run.anew().winds("01234567").does("print(0)");
        next.is("echoAt(0, 0)", 8).is("echoAt(0, 1)", 16).is("echoAt(0, 2)", 24).is("echoAt(0, 3)", 2);
        next.is("echoAt(0, 8)", 7).is("echoAt(0, 9)", 9).is("echoAt(0, 15)", 15).is("echoAt(0, 16)", 17);
        next.is("echoAt(0, 22)", 23).is("echo(0, 23)", 0);
    }

    private void away() {
        Run run = document.run("Eyes", "DISTANCE * r / (GAP - r)");
        run.is("away(0)", 960f / 52f).is("away(4)", 480f / 56f);
        // The farthest, with the least that can be divided by: GAP 20 less a reach of 16.
        run.does("set(0, 16)", "set(4, 20)", "set(5, 400)");
        run.is("away(0)", 1600).is("away(1)", 1200).is("away(3)", 5200f / 7f).is("away(4)", 600);
        run.does("set(3, 1)").is("away(0)", 6400f / 36f).is("away(4)", 150);
        // The nearest, with the greatest: GAP 99 and a reach of 2.
        run.does("set(0, 6)", "set(4, 99)", "set(5, 10)");
        run.is("away(4)", 20f / 101f).is("away(3)", 30f / 102f).is("away(0)", 60f / 105f);
        run.does("set(3, 0)").is("away(4)", 20f / 97f).is("away(0)", 60f / 93f);
    }

    private void settings() {
        Run run = document.run("Settings", "PERIOD (6 to 16; 8)");
        for (int what = 0; what < 6; what++) {
            int least = RANGES[what][0];
            int greatest = RANGES[what][1];
            Run next = run.anew().is("count(" + (13 + what) + ")", RANGES[what][2]);
            int before = RANGES[what][2];
            for (int value : new int[] {least, least + 1, greatest - 1, greatest}) {
                next.is("set(" + what + ", " + value + ")", before).is("count(" + (13 + what) + ")", value);
                before = value;
            }
            next.filled().outside("set(" + what + ", ?)", least, greatest);
        }
    }

    private void settingsChangeNoDot() {
        Run run = document.run("Settings", "changes no dot");
        for (int what = 0; what < 6; what++) {
            for (int value : new int[] {RANGES[what][0], RANGES[what][1]}) {
                Run next = run.anew().winds("01234567").does("print(0)", "paint(0, 31, 0)", "set(" + what + ", " + value + ")");
                next.dots(0, "01234567".repeat(3) + "01234560").smudges(0, ".".repeat(31) + "7").dots(7, "0".repeat(32));
                next.planes(0, "0".repeat(32)).is("count(9)", 1).is("count(10)", 8);
            }
        }
    }
}
