import java.util.ArrayList;
import java.util.LinkedHashSet;
import java.util.List;
import java.util.Set;

/** The bounds that the document names in "Texts". */
final class TextBounds {
    private static final int NONE = StripDepths.NOT_FOUND;
    private static final String SHAPE = "0-7,0-31:4";

    private final Document document;
    private final Due due;

    TextBounds(Document document, Due due) {
        this.document = document;
        this.due = due;
    }

    void hold() {
        pad();
        ways();
        shapes();
        shape();
        rows();
        columns();
        secondColumns();
        placesOfShapes();
        strip();
        firstWrong();
        ofAnyLength();
        notComplete();
        allColumns();
        allRows();
    }

    private void pad() {
        Run run = document.run("Texts", "a pad of at most 80 characters").is("count(11)", 0).is("clear()", 0);
        for (int length = 1; length <= 80; length++) {
            run.is("append(" + (length % 2 == 0 ? 33 : 126) + ")", length);
        }
        run.refused("append(48)", StripDepths.LIMIT_REACHED).refused("append(126)", StripDepths.LIMIT_REACHED);
        run.is("count(11)", 80).is("clear()", 80).is("count(11)", 0).is("append(48)", 1).is("fault(1)", NONE);
    }

    private void ways() {
        Run run = document.run("Texts", "It can be read in two ways").types("0").is("fault(0)", 1).is("fault(1)", NONE);
        run.types(",0:0").is("fault(0)", NONE).is("fault(1)", 1);
        run.outside("fault(?)", 0, 1).is("fault(0)", NONE).is("fault(1)", 1);
    }

    private void faults(Run run, int way, String text, int want) {
        run.anew().types(text).is("fault(" + way + ")", want);
    }

    private void shapes() {
        Run run = document.run("Texts", "one or more shapes with \";\" between two");
        faults(run, 0, "", 0);
        faults(run, 0, ";", 0);
        faults(run, 0, "0,0:0", NONE);
        faults(run, 0, "0,0:0;", 6);
        faults(run, 0, "0,0:0;;", 6);
        faults(run, 0, ";0,0:0", 0);
        faults(run, 0, "0,0:0,", 5);
        faults(run, 0, "0,0:00,0:0", 5);
        faults(run, 0, "0,0:0;7,31:4", NONE);
        faults(run, 0, "0,0:0;7,31:4;", 13);
        faults(run, 0, "0,0:0;7,31:4;3-4,9-10:2", NONE);
        faults(run, 0, "0,0:0;".repeat(12) + "0,0:0", NONE);
        faults(run, 0, "0,0:0;".repeat(13), 78);
        faults(run, 0, "0,0:0;".repeat(13) + "0,", 80);
    }

    private void shape() {
        Run run = document.run("Texts", "and a plane (a digit 0 to 4)");
        faults(run, 0, "0,0:4", NONE);
        faults(run, 0, "0,0:3", NONE);
        faults(run, 0, "0,0:1", NONE);
        faults(run, 0, "0,0:0", NONE);
        faults(run, 0, "0,0:5", 4);
        faults(run, 0, "0,0:/", 4);
        faults(run, 0, "0,0:9", 4);
        faults(run, 0, "0,0:-1", 4);
        faults(run, 0, "0,0:04", 5);
        faults(run, 0, "0,0:40", 5);
        faults(run, 0, "0,0", 3);
        faults(run, 0, "0,0:", 4);
        faults(run, 0, "0:0", 1);
        faults(run, 0, "0,:0", 2);
        faults(run, 0, "0,0,0", 3);
        faults(run, 0, ",0:0", 0);
    }

    private void rows() {
        Run run = document.run("Texts", "Rows are a digit 0 to 7");
        faults(run, 0, "0", 1);
        faults(run, 0, "1", 1);
        faults(run, 0, "6", 1);
        faults(run, 0, "7", 1);
        faults(run, 0, "8", 0);
        faults(run, 0, "/", 0);
        faults(run, 0, "9", 0);
        faults(run, 0, "-", 0);
        faults(run, 0, "07", 1);
        faults(run, 0, "0-0,0:0", NONE);
        faults(run, 0, "7-7,0:0", NONE);
        faults(run, 0, "0-7,0:0", NONE);
        faults(run, 0, "3-3,0:0", NONE);
        faults(run, 0, "3-4,0:0", NONE);
        faults(run, 0, "3-2,0:0", 2);
        faults(run, 0, "1-0,0:0", 2);
        faults(run, 0, "7-6,0:0", 2);
        faults(run, 0, "7-8,0:0", 2);
        faults(run, 0, "0-8,0:0", 2);
        faults(run, 0, "0-/,0:0", 2);
        faults(run, 0, "7-", 2);
        faults(run, 0, "7-,0:0", 2);
        faults(run, 0, "3--", 2);
        faults(run, 0, "3-34", 3);
        faults(run, 0, "3-4-5", 3);
    }

    private void columns() {
        Run run = document.run("Texts", "Columns are a number 0 to 31");
        faults(run, 0, "0,0:0", NONE);
        faults(run, 0, "0,1:0", NONE);
        faults(run, 0, "0,9:0", NONE);
        faults(run, 0, "0,10:0", NONE);
        faults(run, 0, "0,29:0", NONE);
        faults(run, 0, "0,30:0", NONE);
        faults(run, 0, "0,31:0", NONE);
        faults(run, 0, "0,32:0", 3);
        faults(run, 0, "0,39:0", 3);
        faults(run, 0, "0,40:0", 3);
        faults(run, 0, "0,99:0", 3);
        faults(run, 0, "0,-1:0", 2);
        faults(run, 0, "0,/", 2);
        faults(run, 0, "0,;", 2);
        faults(run, 0, "0,310", 4);
        faults(run, 0, "0,100", 4);
        // No needless 0 ahead.
        faults(run, 0, "0,00", 3);
        faults(run, 0, "0,01", 3);
        faults(run, 0, "0,0-0:0", NONE);
        faults(run, 0, "0,0-00", 5);
        faults(run, 0, "0,0-01", 5);
        faults(run, 0, "0,1-01", 4);
    }

    private void secondColumns() {
        Run run = document.run("Texts", "Columns are a number 0 to 31");
        for (int left = 0; left <= 31; left++) {
            int start = ("0," + left + "-").length();
            faults(run, 0, "0," + left + "-" + left + ":0", NONE);
            faults(run, 0, "0," + left + "-31:0", NONE);
            if (left < 31) {
                faults(run, 0, "0," + left + "-" + (left + 1) + ":0", NONE);
            }
            if (left > 0) {
                // Wrong at once, if no number that begins with this digit is great enough.
                boolean atOnce = left == 1 || left >= 5 && left <= 10 || left == 20 || left == 30;
                faults(run, 0, "0," + left + "-" + (left - 1) + ":0", atOnce ? start : start + 1);
            }
            faults(run, 0, "0," + left + "-32:0", start + 1);
            faults(run, 0, "0," + left + "-3:0", left <= 3 ? NONE : start + 1);
        }
    }

    private void placesOfShapes() {
        Run run = document.run("Texts", "all places of its rows and columns");
        run.draws("0,0:4").is("count(0)", 1).is("at(0, 0, 0)", 4);
        run.draws("7-7,31-31:4").is("count(0)", 2).is("at(7, 31, 0)", 4);
        run.draws("0,31:3").is("at(0, 31, 0)", 3).draws("7,0:3").is("at(7, 0, 0)", 3).is("count(0)", 4);
        run.draws("3-4,9-10:1").is("count(0)", 8).planes(3, "0".repeat(9) + "11" + "0".repeat(21));
        run.planes(4, "0".repeat(9) + "11" + "0".repeat(21)).planes(2, "0".repeat(32)).planes(5, "0".repeat(32));
        run.draws("0-7,0-31:2").is("plane(2, 0)", 256).draws("0-7,0-31:0").is("count(0)", 0);
    }

    private void strip() {
        Run run = document.run("Texts", "A strip: 1 to 24 digits 0 to 7");
        faults(run, 1, "", 0);
        faults(run, 1, "0", NONE);
        faults(run, 1, "7", NONE);
        faults(run, 1, "8", 0);
        faults(run, 1, "/", 0);
        faults(run, 1, "1,2", 1);
        faults(run, 1, "01", NONE);
        faults(run, 1, "00", NONE);
        faults(run, 1, "01234567".repeat(3).substring(1), NONE);
        faults(run, 1, "01234567".repeat(3), NONE);
        faults(run, 1, "01234567".repeat(3) + "0", 24);
        faults(run, 1, "01234567".repeat(3) + "8", 24);
        faults(run, 1, "0123456" + "8" + "01234567".repeat(2), 7);
        faults(run, 1, "01234567".repeat(2) + "0123456" + "8", 23);
        faults(run, 1, "01234567".repeat(10), 24);
    }

    private void firstWrong() {
        Run run = document.run("Texts", "of the first character that is wrong");
        // What is behind the first one does not count, nor whether that is wrong too.
        faults(run, 0, "x", 0);
        faults(run, 0, "x0,0:0", 0);
        faults(run, 0, "0,9-8;0,0:9", 4);
        faults(run, 0, "0,0:0;7-6,0:0;8", 8);
        faults(run, 0, "0,0:0;0,0:0x", 11);
        faults(run, 0, "!".repeat(80), 0);
        faults(run, 1, "89", 0);
        faults(run, 1, "01x8", 2);
    }

    private void ofAnyLength() {
        Run run = document.run("Texts", "no pad of that kind, of any length");
        // 77 characters, then the beginning of a shape that the pad has no room for: no character is wrong.
        faults(run, 0, (SHAPE + ";").repeat(7) + "0-7", 80);
        faults(run, 0, (SHAPE + ";").repeat(7) + "0-8", 79);
        faults(run, 0, (SHAPE + ";").repeat(7) + "0,", 79);
        // 80 and 79 characters that are complete.
        String eighty = (SHAPE + ";").repeat(3) + "0,0:4;".repeat(7) + "0,0:4";
        faults(run, 0, eighty, NONE);
        faults(run, 0, eighty.substring(0, 79), 79);
        faults(run, 0, eighty.substring(0, 79) + "5", 79);
        run.types(eighty).is("count(11)", 80).is("draw()", 256).is("count(11)", 0);
        // A first digit is right as long as a second one can make the number great enough.
        faults(run, 0, "0,31-3", 6);
        faults(run, 0, "0,31-30", 6);
        faults(run, 0, "0,31-2", 5);
        faults(run, 0, "0,29-2", 6);
        faults(run, 0, "0,29-28", 6);
        faults(run, 0, "0,9-1", 5);
        faults(run, 0, "0,9-1:", 5);
        faults(run, 0, "0,9-4", 4);
    }

    private void notComplete() {
        Run run = document.run("Texts", "not complete (also if it is empty)");
        for (String text : new String[] {"", "0", "0-", "0-7", "0-7,", "0-7,1", "0-7,1-", "0-7,1-3", "0-7,1-31", "0-7,1-31:"}) {
            faults(run, 0, text, text.length());
        }
        faults(run, 0, "0-7,1-31:4", NONE);
        faults(run, 0, "0-7,1-31:4;", 11);
        faults(run, 1, "", 0);
        faults(run, 1, "5", NONE);
        // Emptied again, it is not complete any more.
        run.types("5").is("fault(1)", NONE).is("clear()", 1).is("fault(1)", 0).is("fault(0)", 0);
    }

    // ---- every beginning of a shape with every character behind it, held against all shapes that there are

    private void allColumns() {
        document.run("Texts", "Columns are a number 0 to 31");
        Set<String> shapes = new LinkedHashSet<>();
        for (String columns : rangesTo(31)) {
            for (int plane = 0; plane <= 4; plane++) {
                shapes.add("3," + columns + ":" + plane);
            }
        }
        Set<String> beginnings = beginningsOf(shapes);
        int wrong = 0;
        for (String beginning : beginnings) {
            wrong += beginning.length() < 2 ? 0 : wrongBehind(beginning, shapes, beginnings);
        }
        due.is("faults behind beginnings of columns that are not as due", wrong, 0);
    }

    private void allRows() {
        document.run("Texts", "Rows are a digit 0 to 7");
        Set<String> rows = new LinkedHashSet<>();
        for (String one : rangesTo(7)) {
            rows.add(one + ",");
        }
        Set<String> beginnings = beginningsOf(rows);
        int wrong = 0;
        for (String beginning : beginnings) {
            wrong += rows.contains(beginning) ? 0 : wrongBehind(beginning, Set.of(), beginnings);
        }
        due.is("faults behind beginnings of rows that are not as due", wrong, 0);
    }

    private static List<String> rangesTo(int greatest) {
        List<String> ranges = new ArrayList<>();
        for (int first = 0; first <= greatest; first++) {
            ranges.add(String.valueOf(first));
            for (int second = first; second <= greatest; second++) {
                ranges.add(first + "-" + second);
            }
        }
        return ranges;
    }

    private static Set<String> beginningsOf(Set<String> texts) {
        Set<String> beginnings = new LinkedHashSet<>();
        for (String text : texts) {
            for (int length = 0; length <= text.length(); length++) {
                beginnings.add(text.substring(0, length));
            }
        }
        return beginnings;
    }

    /** How many characters behind a beginning give a fault that is not due. */
    private static int wrongBehind(String beginning, Set<String> complete, Set<String> beginnings) {
        int wrong = 0;
        StripDepths x = new StripDepths();
        for (char sign = 33; sign <= 126; sign++) {
            String text = beginning + sign;
            boolean goesOn = beginnings.contains(text) || sign == ';' && complete.contains(beginning);
            int want = complete.contains(text) ? NONE : goesOn ? text.length() : text.length() - 1;
            if (sign % 40 == 0) {
                // Another object, as each has 512 calls at most.
                x = new StripDepths();
            }
            Sheets.append(x, text);
            wrong += x.fault(0) == want ? 0 : 1;
            x.clear();
        }
        return wrong;
    }
}
