/** The bounds that the document names in the promises 6 to 11. */
final class DotCallBounds {
    private static final int NONE = StripDepths.NOT_FOUND;
    private static final String EIGHT = "01234567";
    private static final int[][] RANGES = {{6, 16}, {2, 8}, {0, 3}, {0, 1}, {20, 99}, {10, 400}};

    private final Document document;

    DotCallBounds(Document document) {
        this.document = document;
    }

    void hold() {
        printRow();
        printAnswer();
        printAllFromRowZero();
        printAllAnswer();
        paintRow();
        paintColumn();
        paintDot();
        paintAnswer();
        wipeRow();
        wipeAnswer();
        setWhat();
        setValue();
        setAnswer();
        lotX();
        lotAnswer();
    }

    private void printRow() {
        Run run = document.run("Promise 6", "row: 0 to 7").filled().winds("7654");
        run.is("print(6)", 32).is("print(7)", 32).outside("print(?)", 0, 7).dots(7, "7654".repeat(8)).dots(5, EIGHT.repeat(4));
        run = run.anew().winds(EIGHT).is("print(0)", 28).is("print(1)", 28).dots(1, EIGHT.repeat(4)).dots(2, "0".repeat(32));
    }

    private void printAnswer() {
        Run run = document.run("Promise 6", "have another dot than before").winds("0").is("print(0)", 0);
        run.winds("1").is("print(0)", 32).is("print(0)", 0).does("paint(0, 31, 2)").is("print(0)", 1);
        // A smudge with the dot that is printed there is no other dot.
        run.does("paint(0, 31, 1)").is("print(0)", 0).does("paint(0, 0, 2)").is("print(0)", 1).is("row(0, 7)", 0);
    }

    private void printAllFromRowZero() {
        Run run = document.run("Promise 7", "from the row 0 on");
        // Two free places each: 2084 and 9027 for row 0, 2223 and 7546 for row 6, 8529 is the last one.
        run.does("set(0, 6)", "set(1, 8)", "lay(0, 0, 7, 31, 4)", "printAll()").is("count(9)", 8529);
        run.dots(0, "43".repeat(16)).dots(1, "65".repeat(16)).dots(2, "07".repeat(16)).dots(3, "21".repeat(16));
        run.dots(6, "07".repeat(16)).dots(7, "21".repeat(16));
        run = run.anew().winds("567").does("printAll()").dots(0, "56756756".repeat(4)).dots(7, "56756756".repeat(4));
        run.is("count(9)", 1);
    }

    private void printAllAnswer() {
        Run run = document.run("Promise 7", "Returns how many places have another dot").winds("0").is("printAll()", 0);
        run.winds("1").is("printAll()", 256).is("printAll()", 0).does("paint(7, 31, 0)").is("printAll()", 1);
        run.does("paint(0, 0, 0)", "paint(7, 31, 7)", "paint(3, 3, 1)").is("count(8)", 3).is("printAll()", 2).is("count(8)", 0);
    }

    private void paintRow() {
        Run run = document.run("Promise 8", "row: 0 to 7").filled();
        run.is("paint(0, 4, 6)", 4).is("paint(1, 4, 6)", 4).is("paint(6, 4, 6)", 4).is("paint(7, 4, 6)", 4);
        run.is("at(0, 4, 1)", 6).is("at(7, 4, 1)", 6).is("at(7, 4, 7)", 4).is("at(5, 4, 1)", 4).outside("paint(?, 4, 1)", 0, 7);
    }

    private void paintColumn() {
        Run run = document.run("Promise 8", "column: 0 to 31").filled();
        run.is("paint(4, 0, 6)", 0).is("paint(4, 1, 6)", 1).is("paint(4, 30, 5)", 6).is("paint(4, 31, 6)", 7);
        run.outside("paint(4, ?, 1)", 0, 31).dots(4, "66234567" + EIGHT + EIGHT + "01234556");
        run.smudges(4, "01" + ".".repeat(28) + "67").dots(3, "0123456701234567" + "2345672345672345").is("at(5, 0, 1)", 0);
    }

    private void paintDot() {
        Run run = document.run("Promise 8", "dot: 0 to 7: the dot that it has then").filled();
        run.is("paint(4, 4, 0)", 4).is("at(4, 4, 1)", 0).is("paint(4, 4, 1)", 0).is("at(4, 4, 1)", 1);
        run.is("paint(4, 4, 6)", 1).is("at(4, 4, 1)", 6).is("paint(4, 4, 7)", 6).is("at(4, 4, 1)", 7);
        // Also a dot that is beyond COLORS.
        run.does("set(1, 2)").is("paint(4, 4, 7)", 7).outside("paint(4, 4, ?)", 0, 7).is("at(4, 4, 7)", 4);
    }

    private void paintAnswer() {
        Run run = document.run("Promise 8", "Returns the dot that it had");
        run.is("paint(0, 0, 7)", 0).is("paint(0, 0, 7)", 7).is("paint(0, 0, 0)", 7).is("paint(0, 0, 0)", 0).is("at(0, 0, 7)", 0);
    }

    private void wipeRow() {
        Run run = document.run("Promise 9", "row: 0 to 7").filled().does("paint(6, 0, 5)", "paint(7, 31, 5)");
        run.outside("wipe(?)", 0, 7).is("wipe(0)", 1).is("at(0, 5, 1)", 5).is("wipe(1)", 1).is("at(1, 30, 1)", 4);
        run.is("count(8)", 2).is("wipe(6)", 1).is("at(6, 0, 1)", 0).is("wipe(7)", 1).is("at(7, 31, 1)", 7).is("count(8)", 0);
    }

    private void wipeAnswer() {
        Run run = document.run("Promise 9", "Returns how many smudges it had").is("wipe(3)", 0);
        run.does("paint(3, 31, 1)", "paint(3, 31, 2)").is("wipe(3)", 1).is("wipe(3)", 0);
        for (int column = 0; column < 31; column++) {
            run.does("paint(3, " + column + ", " + column % 8 + ")");
        }
        run.is("wipe(3)", 31).dots(3, "0".repeat(32));
        for (int column = 0; column < 32; column++) {
            run.does("paint(3, " + column + ", " + column % 8 + ")");
        }
        run.is("wipe(3)", 32).dots(3, "0".repeat(32)).is("wipe(3)", 0);
    }

    private void setWhat() {
        Run run = document.run("Promise 10", "what: 0 to 5").filled().is("set(0, 9)", 8).is("set(1, 5)", 4);
        run.is("set(4, 44)", 33).is("set(5, 55)", 120);
        // 8, and 1, would be right for some settings, or for all.
        run.outside("set(?, 8)", 0, 5).outside("set(?, 1)", 0, 5).is("count(13)", 9).is("count(14)", 5).is("count(15)", 0);
        run.is("count(16)", 0).is("count(17)", 44).is("count(18)", 55);
    }

    private void setValue() {
        Run run = document.run("Promise 10", "value: a value in its range").filled();
        int[] before = {8, 4, 0, 0, 33, 120};
        for (int what = 0; what < 6; what++) {
            int least = RANGES[what][0];
            int greatest = RANGES[what][1];
            run.is("set(" + what + ", " + least + ")", before[what]).is("set(" + what + ", " + (least + 1) + ")", least);
            run.is("set(" + what + ", " + greatest + ")", least + 1).is("set(" + what + ", " + (greatest - 1) + ")", greatest);
            run.outside("set(" + what + ", ?)", least, greatest).is("count(" + (13 + what) + ")", greatest - 1);
        }
    }

    private void setAnswer() {
        Run run = document.run("Promise 10", "Returns the value before").is("set(0, 16)", 8).is("set(0, 16)", 16);
        run.is("set(0, 6)", 16).is("set(3, 0)", 0).is("set(3, 1)", 0).is("set(3, 1)", 1).is("set(2, 0)", 1).is("set(2, 3)", 0);
    }

    private void lotX() {
        Run run = document.run("Promise 11", "x: 0 to 9999").filled();
        run.is("lot(0)", 77).is("lot(1)", 0).is("lot(9998)", 1).is("lot(9999)", 9998).outside("lot(?)", 0, 9999);
        run.is("count(9)", 9999);
    }

    private void lotAnswer() {
        Run run = document.run("Promise 11", "Returns the lot before").is("lot(1)", 1).is("lot(0)", 1).is("lot(0)", 0);
        run.is("lot(9999)", 0).is("lot(5)", 9999).does("print(0)").is("lot(2)", lotBehind(5, 8)).is("at(0, 0, 7)", NONE);
    }

    private static int lotBehind(int lot, int places) {
        int x = lot;
        for (int i = 0; i < places; i++) {
            x = (421 * x + 1663) % 10000;
        }
        return x;
    }
}
