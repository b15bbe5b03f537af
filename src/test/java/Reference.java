import java.util.ArrayDeque;
import java.util.ArrayList;
import java.util.Arrays;
import java.util.Collections;
import java.util.Comparator;
import java.util.Deque;
import java.util.HashSet;
import java.util.List;
import java.util.Objects;
import java.util.Set;
import java.util.TreeSet;

/** The document told once more, by its definitions and without regard to speed, to hold the class against. */
public final class Reference {
    private static final int WRONG = -1;
    private static final int CANNOT = -2;
    private static final int FULL = -3;
    private static final int NONE = -4;

    private static final int[][] RANGES = {{6, 16}, {2, 8}, {0, 3}, {0, 1}, {20, 99}, {10, 400}};

    /** A place of the sheet; smudge is the dot that it remembers, or null. */
    private record Place(int plane, int dot, Integer smudge) {
        Place withPlane(int other) {
            return new Place(other, dot, smudge);
        }

        Place withDot(int other) {
            return new Place(plane, other, smudge);
        }
    }

    /** Never changed: a change makes another one. */
    private record State(List<List<Place>> rows, List<Integer> settings, List<Integer> strip, int lot) {
        State withRow(int row, List<Place> places) {
            List<List<Place>> all = new ArrayList<>(rows);
            all.set(row, List.copyOf(places));
            return new State(List.copyOf(all), settings, strip, lot);
        }

        State withSetting(int what, int value) {
            List<Integer> all = new ArrayList<>(settings);
            all.set(what, value);
            return new State(rows, List.copyOf(all), strip, lot);
        }

        State withStrip(List<Integer> dots) {
            return new State(rows, settings, List.copyOf(dots), lot);
        }

        State withLot(int x) {
            return new State(rows, settings, strip, x);
        }

        int period() {
            return settings.get(0);
        }
    }

    private State now = new State(Collections.nCopies(8, Collections.nCopies(32, new Place(0, 0, null))),
        List.of(8, 4, 1, 0, 60, 120), List.of(), 1);
    private State snapshot;
    private final Deque<State> history = new ArrayDeque<>();
    private String pad = "";

    private static boolean in(int least, int x, int greatest) {
        return least <= x && x <= greatest;
    }

    private void change(State next) {
        history.addLast(now);
        if (history.size() == 5) {
            history.removeFirst();
        }
        now = next;
    }

    // ---- texts: all shapes there are, and all their beginnings

    private static final Set<String> SHAPES = new HashSet<>();
    private static final Set<String> BEGINNINGS = new HashSet<>();

    static {
        List<String> ranges = new ArrayList<>();
        for (int left = 0; left < 32; left++) {
            ranges.add("" + left);
            for (int right = left; right < 32; right++) {
                ranges.add(left + "-" + right);
            }
        }
        for (String rows : ranges) {
            if (!rows.matches("[0-7](-[0-7])?")) {
                continue;
            }
            for (String columns : ranges) {
                for (int plane = 0; plane <= 4; plane++) {
                    String shape = rows + "," + columns + ":" + plane;
                    SHAPES.add(shape);
                    for (int length = 0; length <= shape.length(); length++) {
                        BEGINNINGS.add(shape.substring(0, length));
                    }
                }
            }
        }
    }

    static List<String> allShapes() {
        return new ArrayList<>(new TreeSet<>(SHAPES));
    }

    private static boolean canBegin(String text, int way) {
        if (way == 1) {
            return text.matches("[0-7]{0,24}");
        }
        int cut = text.lastIndexOf(';');
        if (cut < 0) {
            return BEGINNINGS.contains(text);
        }
        return isComplete(text.substring(0, cut), way) && BEGINNINGS.contains(text.substring(cut + 1));
    }

    private static boolean isComplete(String text, int way) {
        if (way == 1) {
            return text.matches("[0-7]{1,24}");
        }
        for (String shape : text.split(";", -1)) {
            if (!SHAPES.contains(shape)) {
                return false;
            }
        }
        return true;
    }

    private int faultOf(int way) {
        for (int i = 0; i < pad.length(); i++) {
            if (!canBegin(pad.substring(0, i + 1), way)) {
                return i;
            }
        }
        return isComplete(pad, way) ? NONE : pad.length();
    }

    // ---- what the terms say

    private static Integer boundTo(State s, int row, int column) {
        int to = column - (s.period() - s.rows().get(row).get(column).plane());
        return to >= 0 ? to : null;
    }

    private static int chainOf(State s, int row, int column) {
        Integer to = boundTo(s, row, column);
        return to == null ? column : chainOf(s, row, to);
    }

    private static int bindersOf(State s, int row, int column) {
        int number = 0;
        for (int other = 0; other < 32; other++) {
            number += Objects.equals(boundTo(s, row, other), column) ? 1 : 0;
        }
        return number;
    }

    private static State printed(State s, int row) {
        List<Place> places = new ArrayList<>();
        int lot = s.lot();
        int free = 0;
        for (int column = 0; column < 32; column++) {
            Integer to = boundTo(s, row, column);
            int dot;
            if (to != null) {
                dot = places.get(to).dot();
            } else if (s.strip().isEmpty()) {
                lot = (421 * lot + 1663) % 10000;
                dot = lot % s.settings().get(1);
            } else {
                dot = s.strip().get(free % s.strip().size());
                free++;
            }
            places.add(new Place(s.rows().get(row).get(column).plane(), dot, null));
        }
        return s.withRow(row, places).withLot(lot);
    }

    private static boolean fits(State s, int row, int column, int plane) {
        int d = s.period() - plane;
        if (column - d < 0) {
            return false;
        }
        int window = s.settings().get(2);
        for (int k = column - window; k <= column + window; k++) {
            if (in(0, k, 31) && in(0, k - d, 31)) {
                if (s.rows().get(row).get(k).dot() != s.rows().get(row).get(k - d).dot()) {
                    return false;
                }
            }
        }
        return true;
    }

    /** The planes that are seen in a row, null where it is blurred. */
    private static List<Integer> seen(State s, int row) {
        List<Integer> all = new ArrayList<>();
        int[] eyes = {0};
        for (int column = 0; column < 32; column++) {
            List<Integer> fitting = new ArrayList<>();
            for (int plane = 0; plane <= 4; plane++) {
                if (fits(s, row, column, plane)) {
                    fitting.add(plane);
                }
            }
            if (fitting.isEmpty()) {
                all.add(null);
            } else {
                int had = eyes[0];
                fitting.sort(Comparator.<Integer>comparingInt(p -> Math.abs(p - had)).thenComparingInt(p -> -p));
                eyes[0] = fitting.get(0);
                all.add(s.settings().get(3) == 1 ? 4 - eyes[0] : eyes[0]);
            }
        }
        return all;
    }

    private static int rowNumber(State s, int row, int what) {
        List<Place> places = s.rows().get(row);
        List<Integer> seen = seen(s, row);
        int number = 0;
        Set<Integer> dots = new HashSet<>();
        for (int c = 0; c < 32; c++) {
            Integer to = boundTo(s, row, c);
            dots.add(places.get(c).dot());
            boolean is = switch (what) {
                case 0 -> to == null;
                case 1 -> bindersOf(s, row, c) >= 2;
                case 2 -> bindersOf(s, row, c) == 0;
                case 3 -> to != null && places.get(to).dot() != places.get(c).dot();
                case 4 -> seen.get(c) != null && seen.get(c) == places.get(c).plane();
                case 5 -> seen.get(c) != null && seen.get(c) != places.get(c).plane();
                case 6 -> seen.get(c) == null;
                case 7 -> places.get(c).smudge() != null;
                default -> false;
            };
            number += is ? 1 : 0;
        }
        if (what == 8) {
            for (int c = 0; c < 32; c++) {
                number = Math.max(number, membersOf(s, row, c));
            }
        } else if (what == 9) {
            number = dots.size();
        } else if (what == 10) {
            seen.removeIf(Objects::isNull);
            for (int i = 1; i < seen.size(); i++) {
                number += seen.get(i).equals(seen.get(i - 1)) ? 0 : 1;
            }
        }
        return number;
    }

    private static int membersOf(State s, int row, int column) {
        int number = 0;
        for (int other = 0; other < 32; other++) {
            number += chainOf(s, row, other) == chainOf(s, row, column) ? 1 : 0;
        }
        return number;
    }

    private static int total(State s, int what) {
        int number = 0;
        for (int row = 0; row < 8; row++) {
            number += rowNumber(s, row, what);
        }
        return number;
    }

    private static int differences(State s, State other, boolean byDots) {
        int number = 0;
        for (int row = 0; row < 8; row++) {
            for (int c = 0; c < 32; c++) {
                Place one = s.rows().get(row).get(c);
                Place two = other.rows().get(row).get(c);
                number += (byDots ? one.dot() == two.dot() : one.plane() == two.plane()) ? 0 : 1;
            }
        }
        return number;
    }

    private static State laid(State s, int top, int left, int bottom, int right, int plane) {
        State next = s;
        for (int row = top; row <= bottom; row++) {
            List<Place> places = new ArrayList<>(s.rows().get(row));
            for (int c = left; c <= right; c++) {
                places.set(c, places.get(c).withPlane(plane));
            }
            next = next.withRow(row, places);
        }
        return next;
    }

    private static int echoOf(State s, int row, int reach) {
        int number = 0;
        for (int c = reach; c <= 31; c++) {
            number += s.rows().get(row).get(c).dot() == s.rows().get(row).get(c - reach).dot() ? 1 : 0;
        }
        return number;
    }

    // ---- the face

    public int lay(int top, int left, int bottom, int right, int plane) {
        if (!in(0, top, 7) || !in(0, left, 31) || !in(top, bottom, 7) || !in(left, right, 31) || !in(0, plane, 4)) {
            return WRONG;
        }
        State before = now;
        change(laid(now, top, left, bottom, right, plane));
        return differences(before, now, false);
    }

    public int shift(int row, int by) {
        if (!in(0, row, 7) || !in(-31, by, 31)) {
            return WRONG;
        }
        List<Place> places = new ArrayList<>();
        int above = 0;
        for (Place place : now.rows().get(row)) {
            int from = places.size() - by;
            int plane = in(0, from, 31) ? now.rows().get(row).get(from).plane() : 0;
            above += plane > 0 ? 1 : 0;
            places.add(place.withPlane(plane));
        }
        change(now.withRow(row, places));
        return above;
    }

    public int swap(int row, int other) {
        if (!in(0, row, 7) || !in(0, other, 7) || row == other) {
            return WRONG;
        }
        List<Place> one = now.rows().get(row);
        List<Place> two = now.rows().get(other);
        int number = 0;
        for (int c = 0; c < 32; c++) {
            number += one.get(c).plane() == two.get(c).plane() ? 0 : 1;
        }
        change(now.withRow(row, two).withRow(other, one));
        return number;
    }

    public int turn(int row) {
        if (!in(0, row, 7)) {
            return WRONG;
        }
        List<Place> places = new ArrayList<>(now.rows().get(row));
        Collections.reverse(places);
        change(now.withRow(row, places));
        return rowNumber(now, row, 4);
    }

    public int print(int row) {
        if (!in(0, row, 7)) {
            return WRONG;
        }
        State before = now;
        change(printed(now, row));
        return differences(before, now, true);
    }

    public int printAll() {
        State before = now;
        State next = now;
        for (int row = 0; row < 8; row++) {
            next = printed(next, row);
        }
        change(next);
        return differences(before, now, true);
    }

    public int paint(int row, int column, int dot) {
        if (!in(0, row, 7) || !in(0, column, 31) || !in(0, dot, 7)) {
            return WRONG;
        }
        Place had = now.rows().get(row).get(column);
        List<Place> places = new ArrayList<>(now.rows().get(row));
        places.set(column, new Place(had.plane(), dot, had.smudge() == null ? Integer.valueOf(had.dot()) : had.smudge()));
        change(now.withRow(row, places));
        return had.dot();
    }

    public int wipe(int row) {
        if (!in(0, row, 7)) {
            return WRONG;
        }
        int smudges = rowNumber(now, row, 7);
        List<Place> places = new ArrayList<>();
        for (Place p : now.rows().get(row)) {
            places.add(p.smudge() == null ? p : new Place(p.plane(), p.smudge(), null));
        }
        change(now.withRow(row, places));
        return smudges;
    }

    public int set(int what, int value) {
        if (!in(0, what, 5) || !in(RANGES[what][0], value, RANGES[what][1])) {
            return WRONG;
        }
        int had = now.settings().get(what);
        change(now.withSetting(what, value));
        return had;
    }

    public int lot(int x) {
        if (!in(0, x, 9999)) {
            return WRONG;
        }
        int had = now.lot();
        change(now.withLot(x));
        return had;
    }

    public int append(int code) {
        if (!in(33, code, 126)) {
            return WRONG;
        }
        if (pad.length() == 80) {
            return FULL;
        }
        pad += (char) code;
        return pad.length();
    }

    public int clear() {
        int had = pad.length();
        pad = "";
        return had;
    }

    public int fault(int way) {
        return in(0, way, 1) ? faultOf(way) : WRONG;
    }

    public int draw() {
        if (faultOf(0) != NONE) {
            return CANNOT;
        }
        State before = now;
        State next = now;
        for (String shape : pad.split(";")) {
            String[] parts = shape.split("[,:]");
            String[] rows = parts[0].split("-");
            String[] columns = parts[1].split("-");
            next = laid(next, Integer.parseInt(rows[0]), Integer.parseInt(columns[0]),
                Integer.parseInt(rows[rows.length - 1]), Integer.parseInt(columns[columns.length - 1]),
                Integer.parseInt(parts[2]));
        }
        pad = "";
        change(next);
        return differences(before, now, false);
    }

    public int wind() {
        if (faultOf(1) != NONE) {
            return CANNOT;
        }
        List<Integer> dots = new ArrayList<>();
        for (char sign : pad.toCharArray()) {
            dots.add(Character.getNumericValue(sign));
        }
        pad = "";
        change(now.withStrip(dots));
        return dots.size();
    }

    public int unwind() {
        if (now.strip().isEmpty()) {
            return CANNOT;
        }
        int had = now.strip().size();
        change(now.withStrip(List.of()));
        return had;
    }

    private static int orNone(Integer x) {
        return x == null ? NONE : x;
    }

    public int at(int row, int column, int what) {
        if (!in(0, row, 7) || !in(0, column, 31) || !in(0, what, 7)) {
            return WRONG;
        }
        Place place = now.rows().get(row).get(column);
        return switch (what) {
            case 0 -> place.plane();
            case 1 -> place.dot();
            case 2 -> orNone(seen(now, row).get(column));
            case 3 -> orNone(boundTo(now, row, column));
            case 4 -> bindersOf(now, row, column);
            case 5 -> chainOf(now, row, column);
            case 6 -> membersOf(now, row, column);
            default -> orNone(place.smudge());
        };
    }

    public int fits(int row, int column, int plane) {
        if (!in(0, row, 7) || !in(0, column, 31) || !in(0, plane, 4)) {
            return WRONG;
        }
        return fits(now, row, column, plane) ? 1 : 0;
    }

    public int row(int row, int what) {
        return in(0, row, 7) && in(0, what, 10) ? rowNumber(now, row, what) : WRONG;
    }

    public int echo(int row, int reach) {
        return in(0, row, 7) && in(2, reach, 24) ? echoOf(now, row, reach) : WRONG;
    }

    public int echoAt(int row, int place) {
        if (!in(0, row, 7) || !in(0, place, 22)) {
            return WRONG;
        }
        List<Integer> reaches = new ArrayList<>();
        for (int reach = 2; reach <= 24; reach++) {
            reaches.add(reach);
        }
        reaches.sort(Comparator.<Integer>comparingInt(reach -> -echoOf(now, row, reach)).thenComparingInt(reach -> reach));
        return reaches.get(place);
    }

    public int faulty(int place) {
        if (!in(0, place, 7)) {
            return WRONG;
        }
        List<Integer> rows = new ArrayList<>(List.of(0, 1, 2, 3, 4, 5, 6, 7));
        int[] blurred = new int[8];
        int[] wrong = new int[8];
        for (int row : rows) {
            blurred[row] = rowNumber(now, row, 6);
            wrong[row] = rowNumber(now, row, 5);
        }
        rows.sort(Comparator.<Integer>comparingInt(row -> -blurred[row] - wrong[row])
            .thenComparingInt(row -> -blurred[row]).thenComparingInt(row -> row));
        return rows.get(place);
    }

    public int plane(int plane, int what) {
        if (!in(0, plane, 4) || !in(0, what, 3)) {
            return WRONG;
        }
        int[] numbers = new int[4];
        for (int row = 0; row < 8; row++) {
            List<Integer> seen = seen(now, row);
            boolean met = false;
            for (int c = 0; c < 32; c++) {
                boolean isLaid = now.rows().get(row).get(c).plane() == plane;
                boolean isSeen = Objects.equals(seen.get(c), plane);
                numbers[0] += isLaid ? 1 : 0;
                numbers[1] += isSeen ? 1 : 0;
                numbers[2] += isSeen && isLaid ? 1 : 0;
                met |= isLaid;
            }
            numbers[3] += met ? 1 : 0;
        }
        return numbers[what];
    }

    public int pictures() {
        Set<List<Integer>> all = new HashSet<>();
        for (int row = 0; row < 8; row++) {
            all.add(seen(now, row));
        }
        return all.size();
    }

    public int count(int what) {
        if (what == 0) {
            int number = 0;
            for (List<Place> places : now.rows()) {
                number += (int) places.stream().filter(p -> p.plane() > 0).count();
            }
            return number;
        }
        if (in(1, what, 8)) {
            return total(now, what - 1);
        }
        if (in(13, what, 18)) {
            return now.settings().get(what - 13);
        }
        return switch (what) {
            case 9 -> now.lot();
            case 10 -> now.strip().size();
            case 11 -> pad.length();
            case 12 -> history.size();
            default -> WRONG;
        };
    }

    public float away(int plane) {
        if (!in(0, plane, 4)) {
            return -1;
        }
        int r = now.period() - plane;
        float above = now.settings().get(5) * r;
        float below = now.settings().get(3) == 1 ? now.settings().get(4) + r : now.settings().get(4) - r;
        return above / below;
    }

    public double clearness(int row) {
        return in(0, row, 7) ? rowNumber(now, row, 4) / 32.0 : -1;
    }

    public int ifPainted(int row, int column, int dot, int what) {
        if (!in(0, row, 7) || !in(0, column, 31) || !in(0, dot, 7) || !in(0, what, 2)) {
            return WRONG;
        }
        List<Place> places = new ArrayList<>(now.rows().get(row));
        places.set(column, places.get(column).withDot(dot));
        State then = now.withRow(row, places);
        if (what == 1) {
            return rowNumber(then, row, 4);
        }
        List<Integer> before = seen(now, row);
        List<Integer> behind = seen(then, row);
        List<Integer> distances = new ArrayList<>();
        for (int c = 0; c < 32; c++) {
            if (!Objects.equals(before.get(c), behind.get(c))) {
                distances.add(Math.abs(c - column));
            }
        }
        if (what == 0) {
            return distances.size();
        }
        return distances.isEmpty() ? NONE : Collections.max(distances);
    }

    public int ifPrinted(int row, int period) {
        if (!in(0, row, 7) || !in(6, period, 16)) {
            return WRONG;
        }
        return rowNumber(printed(now.withSetting(0, period), row), row, 4);
    }

    public int shortest(int row) {
        if (!in(0, row, 7)) {
            return WRONG;
        }
        int[] right = new int[17];
        for (int period = 6; period <= 16; period++) {
            right[period] = ifPrinted(row, period);
        }
        int most = Arrays.stream(right).max().getAsInt();
        for (int period = 6; period <= 16; period++) {
            if (right[period] == most) {
                return period;
            }
        }
        throw new IllegalStateException();
    }

    public int bestWindow(int row) {
        if (!in(0, row, 7)) {
            return WRONG;
        }
        List<Integer> windows = new ArrayList<>(List.of(0, 1, 2, 3));
        windows.sort(Comparator.<Integer>comparingInt(w -> -rowNumber(now.withSetting(2, w), row, 4))
            .thenComparingInt(w -> w));
        return windows.get(0);
    }

    public int alike(int row, int other) {
        if (!in(0, row, 7) || !in(0, other, 7)) {
            return WRONG;
        }
        List<Integer> one = seen(now, row);
        List<Integer> two = seen(now, other);
        int number = 0;
        for (int c = 0; c < 32; c++) {
            number += Objects.equals(one.get(c), two.get(c)) ? 1 : 0;
        }
        return number;
    }

    public int undo() {
        if (history.isEmpty()) {
            return CANNOT;
        }
        now = history.removeLast();
        return history.size();
    }

    public int save() {
        snapshot = now;
        return total(now, 4);
    }

    public int restore() {
        if (snapshot == null) {
            return CANNOT;
        }
        change(snapshot);
        return total(now, 4);
    }
}
