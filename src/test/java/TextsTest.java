/** Promises 12 to 17. */
public final class TextsTest {
    private static final Due DUE = new Due("TextsTest");
    private static final int NONE = StripDepths.NOT_FOUND;

    public static void main(String[] args) {
        append();
        clear();
        faultsOfRows();
        faultsOfFirstColumns();
        faultsOfSecondColumns();
        faultsOfPlanes();
        faultsOfStrips();
        draw();
        drawNot();
        wind();
        unwind();
        DUE.end();
    }

    private static void append() {
        StripDepths x = new StripDepths();
        DUE.is("append(32)", x.append(32), StripDepths.INVALID_ARGUMENT);
        DUE.is("append(127)", x.append(127), StripDepths.INVALID_ARGUMENT);
        DUE.is("append(33)", x.append(33), 1);
        DUE.is("append(126)", x.append(126), 2);
        for (int length = 3; length <= 80; length++) {
            DUE.is("append(48)", x.append(48), length);
        }
        DUE.is("append to a full pad", x.append(48), StripDepths.LIMIT_REACHED);
        DUE.is("a wrong one to a full pad", x.append(32), StripDepths.INVALID_ARGUMENT);
        DUE.is("the length", x.count(11), 80);
        DUE.is("no change", x.count(12), 0);
    }

    private static void clear() {
        StripDepths x = new StripDepths();
        DUE.is("clear an empty pad", x.clear(), 0);
        Sheets.append(x, "123");
        DUE.is("clear()", x.clear(), 3);
        DUE.is("the length", x.count(11), 0);
        DUE.is("append behind it", x.append('7'), 1);
        DUE.is("no change", x.count(12), 0);
    }

    private static void shapes(String text, int want) {
        DUE.is("fault(0) of " + text, Sheets.faultOf(text, 0), want);
    }

    private static void faultsOfRows() {
        shapes("", 0);
        shapes("8", 0);
        shapes("-", 0);
        shapes("0", 1);
        shapes("7", 1);
        shapes("00", 1);
        shapes("0:", 1);
        shapes("3-", 2);
        shapes("3-2", 2);
        shapes("3-8", 2);
        shapes("3-3", 3);
        shapes("0-7", 3);
        shapes("7-7,", 4);
        shapes("7-77", 3);
        shapes("1-2-3", 3);
        shapes(",", 0);
    }

    private static void faultsOfFirstColumns() {
        shapes("0,", 2);
        shapes("0,:", 2);
        shapes("0,-", 2);
        shapes("0,0", 3);
        shapes("0,00", 3);
        shapes("0,01", 3);
        shapes("0,9", 3);
        shapes("0,4", 3);
        shapes("0,40", 3);
        shapes("0,29", 4);
        shapes("0,31", 4);
        shapes("0,32", 3);
        shapes("0,310", 4);
        shapes("0,3,", 3);
        shapes("0,31:", 5);
    }

    private static void faultsOfSecondColumns() {
        shapes("0,0-", 4);
        shapes("0,0-0", 5);
        shapes("0,0-00", 5);
        shapes("0,1-0", 4);
        shapes("0,9-3", 5);
        shapes("0,9-3:", 5);
        shapes("0,9-30:", 7);
        shapes("0,9-8", 4);
        shapes("0,9-9:", 6);
        shapes("0,5-4", 4);
        shapes("0,20-1", 5);
        shapes("0,19-1", 6);
        shapes("0,19-18", 6);
        shapes("0,19-19:", 8);
        shapes("0,25-2:", 6);
        shapes("0,25-24", 6);
        shapes("0,29-2", 6);
        shapes("0,30-2", 5);
        shapes("0,31-3", 6);
        shapes("0,31-30", 6);
        shapes("0,31-31:", 8);
        shapes("0,31-32", 6);
        shapes("0,31-4", 5);
        shapes("0,2-311", 6);
        shapes("0,2-3-", 5);
        shapes("0,2--", 4);
    }

    private static void faultsOfPlanes() {
        shapes("0,0:5", 4);
        shapes("0,0:-", 4);
        shapes("0,0:0", NONE);
        shapes("0,0:4", NONE);
        shapes("0,0:44", 5);
        shapes("0,0:4;", 6);
        shapes("0,0:4;;", 6);
        shapes("0,0:4,", 5);
        shapes("0,0:4;7-7,31-31:0", NONE);
        shapes("0,0:4;7-6", 8);
        shapes("2,9-3:1", 5);
        shapes("0-7,0-31:4;".repeat(7) + "0-7", 80);
        StripDepths x = new StripDepths();
        DUE.is("fault(2)", x.fault(2), StripDepths.INVALID_ARGUMENT);
        DUE.is("fault(-1)", x.fault(-1), StripDepths.INVALID_ARGUMENT);
    }

    private static void faultsOfStrips() {
        DUE.is("an empty one", Sheets.faultOf("", 1), 0);
        DUE.is("one dot", Sheets.faultOf("7", 1), NONE);
        DUE.is("an 8", Sheets.faultOf("078", 1), 2);
        DUE.is("a sign below 0", Sheets.faultOf("0/", 1), 1);
        DUE.is("a comma", Sheets.faultOf(",", 1), 0);
        DUE.is("24 dots", Sheets.faultOf("01234567".repeat(3), 1), NONE);
        DUE.is("25 dots", Sheets.faultOf("01234567".repeat(3) + "0", 1), 24);
        DUE.is("80 dots", Sheets.faultOf("01234567".repeat(10), 1), 24);
        DUE.is("a fault ahead of the 25th", Sheets.faultOf("012345a".repeat(5), 1), 6);
    }

    private static void draw() {
        StripDepths x = new StripDepths();
        x.lay(0, 0, 0, 1, 3);
        // The second shape takes back 2 places, and the third lays what is there.
        DUE.is("draw()", Sheets.draw(x, "0-1,0-4:3;1,0-1:0;0,0:3;7,31:1"), 7);
        DUE.holds("row 0", Sheets.planes(x, 0).equals("33333" + "0".repeat(27)));
        DUE.holds("row 1", Sheets.planes(x, 1).equals("00333" + "0".repeat(27)));
        DUE.holds("row 7", Sheets.planes(x, 7).equals("0".repeat(31) + "1"));
        DUE.is("above 0", x.count(0), 9);
        DUE.is("the pad is empty", x.count(11), 0);
        DUE.is("changes", x.count(12), 2);
        DUE.is("draw all", Sheets.draw(x, "0-7,0-31:4"), 256);
        DUE.is("draw nothing new", Sheets.draw(x, "3,3:1;3,3:4"), 0);
        DUE.is("it is a change", x.undo(), 3);
        DUE.is("the pad is not undone", x.count(11), 0);
    }

    private static void drawNot() {
        StripDepths x = new StripDepths();
        DUE.is("draw an empty pad", x.draw(), StripDepths.NOT_POSSIBLE);
        DUE.is("draw half a shape", Sheets.draw(x, "0,0:1;"), StripDepths.NOT_POSSIBLE);
        DUE.is("the pad stays", x.count(11), 6);
        DUE.is("no plane", x.count(0), 0);
        DUE.is("no change", x.count(12), 0);
        DUE.is("draw a strip", Sheets.draw(x, "0123"), StripDepths.NOT_POSSIBLE);
    }

    private static void wind() {
        StripDepths x = new StripDepths();
        DUE.is("wind an empty pad", x.wind(), StripDepths.NOT_POSSIBLE);
        DUE.is("wind a shape", Sheets.wind(x, "0,0:1"), StripDepths.NOT_POSSIBLE);
        DUE.is("the pad stays", x.count(11), 5);
        DUE.is("no change", x.count(12), 0);
        DUE.is("wind()", Sheets.wind(x, "012345670123456701234567"), 24);
        DUE.is("the strip", x.count(10), 24);
        DUE.is("the pad is empty", x.count(11), 0);
        DUE.is("another one", Sheets.wind(x, "67"), 2);
        x.print(0);
        DUE.holds("is printed with", Sheets.dots(x, 0).equals("67".repeat(16)));
        DUE.is("a change each", x.count(12), 3);
    }

    private static void unwind() {
        StripDepths x = new StripDepths();
        DUE.is("unwind none", x.unwind(), StripDepths.NOT_POSSIBLE);
        Sheets.wind(x, "123");
        DUE.is("unwind()", x.unwind(), 3);
        DUE.is("no strip", x.count(10), 0);
        DUE.is("unwind again", x.unwind(), StripDepths.NOT_POSSIBLE);
        DUE.is("changes", x.count(12), 2);
        x.undo();
        x.print(0);
        DUE.holds("the strip is back", Sheets.dots(x, 0).equals("12312312".repeat(4)));
    }
}
